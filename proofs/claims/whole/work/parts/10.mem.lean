/-! rules of the judgement: fields, rows of numbers, rows of references -/
theorem jI_clamp {z : Int} (h : 0 ≤ z) (h2 : z < 2147483648) : (jI z).toNatClampNeg = z.toNat := by
  show (jI z).toInt.toNat = z.toNat
  rw [jI_toInt ⟨by omega, h2⟩]
theorem jI_in {z : Int} {n : Nat} (h : 0 ≤ z) (h1 : z < (n : Int)) (hn : n ≤ 2147483647) : vp_in (jI z) n := by
  rintro (q | q)
  · have := (jI_lt ⟨by omega, by omega⟩ jr_0).mp (show jI z < jI 0 from q)
    omega
  · rw [jI_clamp h (by omega)] at q
    omega
def jfd (q : Nat) : Option (String × String × Bool) := (vwCl[q / 1000]?).map fun r => ((r.2.1 (q % 1000)).1, (r.2.1 (q % 1000)).2.2.1, (r.2.1 (q % 1000)).2.2.2)
theorem jTb_ws {c : Nat} {r : vw_C} (h : vwCl[c]? = some r) : ∀ w ∈ u_ws r.1 r.2.1 r.2.2, w ∈ jTb := by
  have hl : c < 13 := (List.getElem?_eq_some_iff.mp h).1
  have h1 := List.all_eq_true.mp jCw_all c (List.mem_range.mpr hl)
  unfold jCw at h1
  rw [h] at h1
  intro w hw
  simp only [Bool.and_eq_true] at h1
  obtain ⟨i, hi⟩ := List.getElem?_of_mem hw
  have hlen := Nat.eq_of_beq_eq_true h1.1
  have hil := (List.getElem?_eq_some_iff.mp hi).1
  obtain ⟨p, hp⟩ : ∃ p, (jWp.getD c [])[i]? = some p := ⟨_, List.getElem?_eq_getElem (by omega)⟩
  have hz : ((u_ws r.1 r.2.1 r.2.2).zip (jWp.getD c []))[i]? = some (w, p) := List.getElem?_zip_eq_some.mpr ⟨hi, hp⟩
  exact jAt_mem (List.all_eq_true.mp h1.2 (w, p) (List.mem_of_getElem? hz))
theorem jfield {j idx q : Nat} (h : jHas jFL (jO j) idx q = true) : ∃ r, vwCl[q / 1000]? = some r ∧ q % 1000 < r.2.2 ∧ Cond.fieldLink (jOw j) idx (r.2.1 (q % 1000)).1 (r.2.1 (q % 1000)).2.1 (r.2.1 (q % 1000)).2.2.1 ∈ jTb := by
  obtain ⟨d, hd⟩ := jHas_spec h
  have h1 := List.all_eq_true.mp jFL_ok _ hd
  unfold jflOK at h1
  cases hr : vwCl[q / 1000]? with
  | none => rw [hr] at h1; cases h1
  | some r =>
    rw [hr] at h1
    simp only [Bool.and_eq_true] at h1
    exact ⟨r, rfl, Nat.le_of_ble_eq_true h1.1, jAt_mem h1.2⟩
theorem jcl_lt999 {c : Nat} {r : vw_C} (h : vwCl[c]? = some r) : c < 999 := by
  have hl : c < 13 := (List.getElem?_eq_some_iff.mp h).1
  omega
section JM
variable {l : Launch} {j pc : Nat} {L : jLo} {st : List Value} {G G' : jG} {v : Option Value}
theorem je_getf {i idx q : Nat} {fs : List Value} {w : Value} (hi : jIns j pc = some (.getfield idx, 3, q)) (hg : G.1 i = .inr (q / 1000, fs)) (hv : fs[q % 1000]? = some w) (k : jE l j (pc + 3) L (w :: st) G v G') : jE l j pc L (.ref i :: st) G v G' := by
  intro p e R s m args below meth c D dA base ro N0 S0 Q ls H locs cells slots hC hc hs hend hL hI
  obtain ⟨hd, hok⟩ := jdec hi
  obtain ⟨r, hr, hlt, hfl⟩ := jfield hok
  obtain ⟨hN, had⟩ := jIv_obj hI (jcl_lt999 hr) hg
  have hget := jIv_get hI hN
  rw [hg] at hget
  exact va_get (D := D) (C := r.1) (T := r.2.1) (N := r.2.2) (ci := q / 1000) (own := jOw j) hC.1 hC.2.1 hC.2.2.2.2.1 (jTb_ws hr) hC.2.2.2.1 hC.2.2.2.2.2.1 hI.1 i hget hr (q % 1000) hlt (hC.2.2.2.2.1 _ hfl) (fun _ h => h) (v := jv (jad base ro) w) (by rw [List.getElem?_map, hv]; rfl) hd (k p e R s m args below meth c D dA base ro N0 S0 Q ls H locs cells slots hC hc hs hend hL hI)
theorem jty_all : ∀ c, c < 13 → ∀ r, vwCl[c]? = some r → ∃ ty : Nat → FieldType, (∀ k, k < r.2.2 → parseFieldDescriptor (r.2.1 k).2.2.1 = some (ty k)) ∧ ∀ a, a < r.2.2 → ∀ b, b < r.2.2 → a ≠ b → (r.2.1 a).2.1 ≠ (r.2.1 b).2.1 := by
  intro c hc r hr
  match c, hc with
  | 0, _ => cases hr; exact ⟨tyX0, tyX0_ok, nmX0⟩
  | 1, _ => cases hr; exact ⟨tyX1, tyX1_ok, nmX1⟩
  | 2, _ => cases hr; exact ⟨tyX2, tyX2_ok, nmX2⟩
  | 3, _ => cases hr; exact ⟨tyX3, tyX3_ok, nmX3⟩
  | 4, _ => cases hr; exact ⟨tyX4, tyX4_ok, nmX4⟩
  | 5, _ => cases hr; exact ⟨tyX5, tyX5_ok, nmX5⟩
  | 6, _ => cases hr; exact ⟨tyX6, tyX6_ok, nmX6⟩
  | 7, _ => cases hr; exact ⟨tyX7, tyX7_ok, nmX7⟩
  | 8, _ => cases hr; exact ⟨tyX8, tyX8_ok, nmX8⟩
  | 9, _ => cases hr; exact ⟨tyX9, tyX9_ok, nmX9⟩
  | 10, _ => cases hr; exact ⟨tyX10, tyX10_ok, nmX10⟩
  | 11, _ => cases hr; exact ⟨tyX11, tyX11_ok, nmX11⟩
  | 12, _ => cases hr; exact ⟨tyX12, tyX12_ok, nmX12⟩
/-- a field that is not final -/
theorem je_put {i idx q : Nat} {fs : List Value} {w : Value} {cn dn : String} {ty : FieldType} (hi : jIns j pc = some (.putfield idx, 3, q)) (hk : jfd q = some (cn, dn, false)) (hty : parseFieldDescriptor dn = some ty) (hn : ∀ ad, narrow ty (jv ad w) = jv ad w) (hf : ∀ ad, fits ty (jv ad w) = true) (hg : G.1 i = .inr (q / 1000, fs)) (hl : q % 1000 < fs.length) (k : jE l j (pc + 3) L st (jup G i (.inr (q / 1000, fs.set (q % 1000) w))) v G') : jE l j pc L (w :: .ref i :: st) G v G' := by
  intro p e R s m args below meth c D dA base ro N0 S0 Q ls H locs cells slots hC hc hs hend hL hI
  obtain ⟨hd, hok⟩ := jdec hi
  obtain ⟨r, hr, hlt, hfl⟩ := jfield hok
  obtain ⟨hN, had⟩ := jIv_obj hI (jcl_lt999 hr) hg
  have hget := jIv_get hI hN
  rw [hg] at hget
  obtain ⟨ty0, t1, t2⟩ := jty_all _ (List.getElem?_eq_some_iff.mp hr).1 r hr
  unfold jfd at hk
  rw [hr] at hk
  simp only [Option.map_some, Option.some.injEq, Prod.mk.injEq] at hk
  exact va_put (D := D) (C := r.1) (T := r.2.1) (N := r.2.2) (ci := q / 1000) (own := jOw j) (ty := ty) hC.1 hC.2.1 hC.2.2.2.2.1 (jTb_ws hr) ty0 t1 t2 hC.2.2.2.1 hC.2.2.2.2.2.1 hI.1 jWs_D hI.2.1 i hget hr (q % 1000) hlt (hC.2.2.2.2.1 _ hfl) (fun _ h => h) hk.2.2 (by rw [hk.2.1]; exact hty) (hn _) (hf _) (by rw [List.length_map]; exact hl) hd (fun H1 locs1 hP hD hS => by
    rw [← List.map_set] at hP
    exact k p e R s m args below meth c D dA base ro N0 S0 Q ls H1 locs1 cells slots hC hc hs hend hL (jIv_put hI hN (.inr (q / 1000, fs.set (q % 1000) w)) hP hS))
theorem je_puti {i idx q : Nat} {fs : List Value} {x : Int32} {cn : String} (hi : jIns j pc = some (.putfield idx, 3, q)) (hk : jfd q = some (cn, "I", false)) (hg : G.1 i = .inr (q / 1000, fs)) (hl : q % 1000 < fs.length) (k : jE l j (pc + 3) L st (jup G i (.inr (q / 1000, fs.set (q % 1000) (.int x)))) v G') : jE l j pc L (.int x :: .ref i :: st) G v G' :=
  je_put hi hk (ty := .int) (by decide +kernel) (fun _ => rfl) (fun _ => rfl) hg hl k
theorem je_putl {i idx q : Nat} {fs : List Value} {x : Int64} {cn : String} (hi : jIns j pc = some (.putfield idx, 3, q)) (hk : jfd q = some (cn, "J", false)) (hg : G.1 i = .inr (q / 1000, fs)) (hl : q % 1000 < fs.length) (k : jE l j (pc + 3) L st (jup G i (.inr (q / 1000, fs.set (q % 1000) (.long x)))) v G') : jE l j pc L (.long x :: .ref i :: st) G v G' :=
  je_put hi hk (ty := .long) (by decide +kernel) (fun _ => rfl) (fun _ => rfl) hg hl k
theorem je_putz {i idx q : Nat} {fs : List Value} {x : Int32} {cn : String} (hi : jIns j pc = some (.putfield idx, 3, q)) (hk : jfd q = some (cn, "Z", false)) (hx : x = 0 ∨ x = 1) (hg : G.1 i = .inr (q / 1000, fs)) (hl : q % 1000 < fs.length) (k : jE l j (pc + 3) L st (jup G i (.inr (q / 1000, fs.set (q % 1000) (.int x)))) v G') : jE l j pc L (.int x :: .ref i :: st) G v G' :=
  je_put hi hk (ty := .boolean) (by decide +kernel) (fun _ => by rcases hx with rfl | rfl <;> rfl) (fun _ => by rcases hx with rfl | rfl <;> rfl) hg hl k
/-- a final field, in its class's constructor -/
theorem je_putF {i a idx q : Nat} {fs : List Value} {dn : String} {ty : FieldType} (hi : jIns j pc = some (.putfield idx, 3, q)) (hk : jfd q = some (jOw j, dn, true)) (hin : (jY j).name = "<init>") (hty : parseFieldDescriptor dn = some ty) (hr9 : (∃ n, ty = .object n) ∨ ∃ t, ty = .array t) (hg : G.1 i = .inr (q / 1000, fs)) (hl : q % 1000 < fs.length) (k : jE l j (pc + 3) L st (jup G i (.inr (q / 1000, fs.set (q % 1000) (.ref a)))) v G') : jE l j pc L (.ref a :: .ref i :: st) G v G' := by
  intro p e R s m args below meth c D dA base ro N0 S0 Q ls H locs cells slots hC hc hs hend hL hI
  obtain ⟨hd, hok⟩ := jdec hi
  obtain ⟨r, hr, hlt, hfl⟩ := jfield hok
  obtain ⟨hN, had⟩ := jIv_obj hI (jcl_lt999 hr) hg
  have hget := jIv_get hI hN
  rw [hg] at hget
  obtain ⟨ty0, t1, t2⟩ := jty_all _ (List.getElem?_eq_some_iff.mp hr).1 r hr
  unfold jfd at hk
  rw [hr] at hk
  simp only [Option.map_some, Option.some.injEq, Prod.mk.injEq] at hk
  have hn : narrow ty (.ref (jad base ro a)) = .ref (jad base ro a) := by rcases hr9 with ⟨n, rfl⟩ | ⟨n, rfl⟩ <;> rfl
  have hf : fits ty (.ref (jad base ro a)) = true := by rcases hr9 with ⟨n, rfl⟩ | ⟨n, rfl⟩ <;> rfl
  exact va_putF (D := D) (C := r.1) (T := r.2.1) (N := r.2.2) (ci := q / 1000) (own := jOw j) (ty := ty) hC.1 hC.2.1 hC.2.2.2.2.1 (jTb_ws hr) ty0 t1 t2 hC.2.2.2.1 hC.2.2.2.2.2.1 hI.1 jWs_D hI.2.1 i hget hr (q % 1000) hlt (hC.2.2.2.2.1 _ hfl) (fun _ h => h) hk.2.2 (hC.2.2.2.2.2.2.2.2.2.1 hin) hk.1 (by rw [hk.2.1]; exact hty) hn hf (by rw [List.length_map]; exact hl) hd (fun H1 locs1 hP hD hS => by
    have hP2 : va_P D vwCl ((jWs dA base ro G).set i (jad base ro i, jcell (jad base ro) dA (.inr (q / 1000, fs.set (q % 1000) (.ref a))))) H1 := by
      have e : (fs.set (q % 1000) (.ref a)).map (jv (jad base ro)) = (fs.map (jv (jad base ro))).set (q % 1000) (.ref (jad base ro a)) := by rw [List.map_set]; rfl
      show va_P D vwCl ((jWs dA base ro G).set i (jad base ro i, .inr (q / 1000, (fs.set (q % 1000) (.ref a)).map (jv (jad base ro))))) H1
      rw [e]
      exact hP
    exact k p e R s m args below meth c D dA base ro N0 S0 Q ls H1 locs1 cells slots hC hc hs hend hL (jIv_put hI hN _ hP2 hS))
theorem je_iald {a n : Nat} {f : Nat → Int32} {z : Int} (hi : jIns j pc = some (.iaload, 1, 0)) (hg : G.1 a = .inl (13, n, .inl f)) (h0 : 0 ≤ z) (h1 : z < (n : Int)) (hn : n ≤ 2147483647) (k : jE l j (pc + 1) L (.int (f z.toNat) :: st) G v G') : jE l j pc L (.int (jI z) :: .ref a :: st) G v G' := by
  intro p e R s m args below meth c D dA base ro N0 S0 Q ls H locs cells slots hC hc hs hend hL hI
  obtain ⟨hN, had⟩ := jIv_arr hI (by decide) hg
  have hget := jIv_get hI hN
  rw [hg] at hget
  refine va_iald hC.1 hC.2.1 hC.2.2.2.2.2.1 hI.1 a 0 hget rfl (jI_in h0 h1 hn) (jdec hi).1 ?_
  rw [jI_clamp h0 (by omega)]
  exact k p e R s m args below meth c D dA base ro N0 S0 Q ls H locs cells slots hC hc hs hend hL hI
theorem je_zald {a n : Nat} {f : Nat → Int32} {z : Int} (hi : jIns j pc = some (.baload, 1, 0)) (hg : G.1 a = .inl (15, n, .inl f)) (h0 : 0 ≤ z) (h1 : z < (n : Int)) (hn : n ≤ 2147483647) (k : jE l j (pc + 1) L (.int (f z.toNat) :: st) G v G') : jE l j pc L (.int (jI z) :: .ref a :: st) G v G' := by
  intro p e R s m args below meth c D dA base ro N0 S0 Q ls H locs cells slots hC hc hs hend hL hI
  obtain ⟨hN, had⟩ := jIv_arr hI (by decide) hg
  have hget := jIv_get hI hN
  rw [hg] at hget
  refine va_zald hC.1 hC.2.1 hC.2.2.2.2.2.1 hI.1 a 2 hget rfl (jI_in h0 h1 hn) (jdec hi).1 ?_
  rw [jI_clamp h0 (by omega)]
  exact k p e R s m args below meth c D dA base ro N0 S0 Q ls H locs cells slots hC hc hs hend hL hI
theorem je_lald {a n : Nat} {f : Nat → Int64} {z : Int} (hi : jIns j pc = some (.laload, 1, 0)) (hg : G.1 a = .inl (14, n, .inr (.inl f))) (h0 : 0 ≤ z) (h1 : z < (n : Int)) (hn : n ≤ 2147483647) (k : jE l j (pc + 1) L (.long (f z.toNat) :: st) G v G') : jE l j pc L (.int (jI z) :: .ref a :: st) G v G' := by
  intro p e R s m args below meth c D dA base ro N0 S0 Q ls H locs cells slots hC hc hs hend hL hI
  obtain ⟨hN, had⟩ := jIv_arr hI (by decide) hg
  have hget := jIv_get hI hN
  rw [hg] at hget
  refine va_lald hC.1 hC.2.1 hC.2.2.2.2.2.1 hI.1 a 1 hget rfl (jI_in h0 h1 hn) (jdec hi).1 ?_
  rw [jI_clamp h0 (by omega)]
  exact k p e R s m args below meth c D dA base ro N0 S0 Q ls H locs cells slots hC hc hs hend hL hI
theorem je_iald_ro {a n : Nat} {f : Nat → Int32} {z : Int} (hi : jIns j pc = some (.iaload, 1, 0)) (hg : G.1 a = .inl (100, n, .inl f)) (ha : 1000000 ≤ a) (h0 : 0 ≤ z) (h1 : z < (n : Int)) (hn : n ≤ 2147483647) (k : jE l j (pc + 1) L (.int (f z.toNat) :: st) G v G') : jE l j pc L (.int (jI z) :: .ref a :: st) G v G' := by
  intro p e R s m args below meth c D dA base ro N0 S0 Q ls H locs cells slots hC hc hs hend hL hI
  obtain ⟨n', xs, q1, q2⟩ : ∃ (n' : Nat) (xs : Nat → Int32), G.1 a = .inl (100, n', .inl xs) ∧ va_T .int (ro a) n' (fun k => .int (xs k)) (jB base) s s.heap := by
    rcases hI.2.2.2.2.2.2.2 a ha with z | z
    · rw [hg] at z; cases z
    · exact z
  rw [hg] at q1
  cases q1
  have had : jad base ro a = ro a := by unfold jad; rw [if_neg (by omega)]
  show W p l e R s m args below meth c H locs cells slots Q (F0 m pc ls (.int (jI z) :: .ref (jad base ro a) :: st.map (jv (jad base ro))))
  rw [had]
  refine va_ti hC.1 hC.2.1 q2 hI.2.1 (jI_in h0 h1 hn) (v := .int (f z.toNat)) (by rw [jI_clamp h0 (by omega)]) (jdec hi).1 ?_
  exact k p e R s m args below meth c D dA base ro N0 S0 Q ls H locs cells slots hC hc hs hend hL hI
theorem je_alen_ro {a n : Nat} {f : Nat → Int32} (hi : jIns j pc = some (.arraylength, 1, 0)) (hg : G.1 a = .inl (100, n, .inl f)) (ha : 1000000 ≤ a) (k : jE l j (pc + 1) L (.int (jI (n : Int)) :: st) G v G') : jE l j pc L (.ref a :: st) G v G' := by
  intro p e R s m args below meth c D dA base ro N0 S0 Q ls H locs cells slots hC hc hs hend hL hI
  obtain ⟨n', xs, q1, q2⟩ : ∃ (n' : Nat) (xs : Nat → Int32), G.1 a = .inl (100, n', .inl xs) ∧ va_T .int (ro a) n' (fun k => .int (xs k)) (jB base) s s.heap := by
    rcases hI.2.2.2.2.2.2.2 a ha with z | z
    · rw [hg] at z; cases z
    · exact z
  rw [hg] at q1
  cases q1
  have had : jad base ro a = ro a := by unfold jad; rw [if_neg (by omega)]
  obtain ⟨cell, g1, g2, g3, g4, g5, g6, g7⟩ := q2.kept hI.2.1.2.1
  show W p l e R s m args below meth c H locs cells slots Q (F0 m pc ls (.ref (jad base ro a) :: st.map (jv (jad base ro))))
  rw [had]
  refine W.alen (n := jI (n : Int)) hC.1 hC.2.1 g1 g2 (by rw [g5]; exact Int32.ofInt_eq_ofNat.symm) rfl rfl (jdec hi).1 ?_
  exact k p e R s m args below meth c D dA base ro N0 S0 Q ls H locs cells slots hC hc hs hend hL hI
theorem je_iast {a n : Nat} {f : Nat → Int32} {z : Int} {x : Int32} (hi : jIns j pc = some (.iastore, 1, 0)) (hg : G.1 a = .inl (13, n, .inl f)) (h0 : 0 ≤ z) (h1 : z < (n : Int)) (hn : n ≤ 2147483647) (k : jE l j (pc + 1) L st (jup G a (.inl (13, n, .inl (upd f z.toNat x)))) v G') : jE l j pc L (.int x :: .int (jI z) :: .ref a :: st) G v G' := by
  intro p e R s m args below meth c D dA base ro N0 S0 Q ls H locs cells slots hC hc hs hend hL hI
  obtain ⟨hN, had⟩ := jIv_arr hI (by decide) hg
  have hget := jIv_get hI hN
  rw [hg] at hget
  refine va_iast hC.1 hC.2.1 hC.2.2.2.2.2.1 hI.1 jWs_D hI.2.1 a 0 hget rfl (jI_in h0 h1 hn) (jdec hi).1 (fun H1 locs1 hP hD hS => ?_)
  rw [jI_clamp h0 (by omega)] at hP
  exact k p e R s m args below meth c D dA base ro N0 S0 Q ls H1 locs1 cells slots hC hc hs hend hL (jIv_put hI hN (.inl (13, n, .inl (upd f z.toNat x))) hP hS)
theorem je_zast {a n : Nat} {f : Nat → Int32} {z : Int} {x : Int32} (hi : jIns j pc = some (.bastore, 1, 0)) (hg : G.1 a = .inl (15, n, .inl f)) (h0 : 0 ≤ z) (h1 : z < (n : Int)) (hn : n ≤ 2147483647) (hx : x = 0 ∨ x = 1) (k : jE l j (pc + 1) L st (jup G a (.inl (15, n, .inl (upd f z.toNat x)))) v G') : jE l j pc L (.int x :: .int (jI z) :: .ref a :: st) G v G' := by
  intro p e R s m args below meth c D dA base ro N0 S0 Q ls H locs cells slots hC hc hs hend hL hI
  obtain ⟨hN, had⟩ := jIv_arr hI (by decide) hg
  have hget := jIv_get hI hN
  rw [hg] at hget
  refine va_zast hC.1 hC.2.1 hC.2.2.2.2.2.1 hI.1 jWs_D hI.2.1 a 2 hget rfl (jI_in h0 h1 hn) (jdec hi).1 (fun H1 locs1 hP hD hS => ?_)
  have hx2 : vp_nar .boolean x = x := by rcases hx with rfl | rfl <;> rfl
  rw [jI_clamp h0 (by omega), hx2] at hP
  exact k p e R s m args below meth c D dA base ro N0 S0 Q ls H1 locs1 cells slots hC hc hs hend hL (jIv_put hI hN (.inl (15, n, .inl (upd f z.toNat x))) hP hS)
theorem je_last {a n : Nat} {f : Nat → Int64} {z : Int} {x : Int64} (hi : jIns j pc = some (.lastore, 1, 0)) (hg : G.1 a = .inl (14, n, .inr (.inl f))) (h0 : 0 ≤ z) (h1 : z < (n : Int)) (hn : n ≤ 2147483647) (k : jE l j (pc + 1) L st (jup G a (.inl (14, n, .inr (.inl (vp_updL f z.toNat x))))) v G') : jE l j pc L (.long x :: .int (jI z) :: .ref a :: st) G v G' := by
  intro p e R s m args below meth c D dA base ro N0 S0 Q ls H locs cells slots hC hc hs hend hL hI
  obtain ⟨hN, had⟩ := jIv_arr hI (by decide) hg
  have hget := jIv_get hI hN
  rw [hg] at hget
  refine va_last hC.1 hC.2.1 hC.2.2.2.2.2.1 hI.1 jWs_D hI.2.1 a 1 hget rfl (jI_in h0 h1 hn) (jdec hi).1 (fun H1 locs1 hP hD hS => ?_)
  rw [jI_clamp h0 (by omega)] at hP
  exact k p e R s m args below meth c D dA base ro N0 S0 Q ls H1 locs1 cells slots hC hc hs hend hL (jIv_put hI hN (.inl (14, n, .inr (.inl (vp_updL f z.toNat x)))) hP hS)
theorem je_aald {a n kd b : Nat} {f : Nat → Option Nat} {z : Int} (hi : jIns j pc = some (.aaload, 1, 0)) (hkd : kd = 16 ∨ kd = 17) (hg : G.1 a = .inl (kd, n, .inr (.inr (.inr (.inr f))))) (h0 : 0 ≤ z) (h1 : z < (n : Int)) (hn : n ≤ 2147483647) (hb : f z.toNat = some b) (k : jE l j (pc + 1) L (.ref b :: st) G v G') : jE l j pc L (.int (jI z) :: .ref a :: st) G v G' := by
  intro p e R s m args below meth c D dA base ro N0 S0 Q ls H locs cells slots hC hc hs hend hL hI
  obtain ⟨hN, had⟩ := jIv_arr hI (by omega) hg
  have hget := jIv_get hI hN
  rw [hg] at hget
  have ee : va_rf ((f (jI z).toNatClampNeg).map (jad base ro)) = .ref (jad base ro b) := by rw [jI_clamp h0 (by omega), hb]; rfl
  rcases hkd with rfl | rfl
  · refine va_aldq (C := "TailPatches$Row") hC.1 hC.2.1 hC.2.2.2.2.2.1 hI.1 a 3 hget rfl (jI_in h0 h1 hn) (jdec hi).1 ?_
    rw [ee]
    exact k p e R s m args below meth c D dA base ro N0 S0 Q ls H locs cells slots hC hc hs hend hL hI
  · refine va_aldq (C := "TailPatches$State") hC.1 hC.2.1 hC.2.2.2.2.2.1 hI.1 a 4 hget rfl (jI_in h0 h1 hn) (jdec hi).1 ?_
    rw [ee]
    exact k p e R s m args below meth c D dA base ro N0 S0 Q ls H locs cells slots hC hc hs hend hL hI
theorem je_alen {a kd : Nat} {x : vp_A} (hi : jIns j pc = some (.arraylength, 1, 0)) (hkd : 13 ≤ kd ∧ kd ≤ 17) (hg : G.1 a = .inl (kd, x)) (k : jE l j (pc + 1) L (.int (jI (x.1 : Int)) :: st) G v G') : jE l j pc L (.ref a :: st) G v G' := by
  intro p e R s m args below meth c D dA base ro N0 S0 Q ls H locs cells slots hC hc hs hend hL hI
  obtain ⟨hN, had⟩ := jIv_arr hI (by omega) hg
  have hget := jIv_get hI hN
  rw [hg] at hget
  obtain ⟨ty, hty⟩ : ∃ ty, (jTy dA)[kd - 13]? = some (dA kd, ty) := by
    rcases (show kd = 13 ∨ kd = 14 ∨ kd = 15 ∨ kd = 16 ∨ kd = 17 by omega) with rfl | rfl | rfl | rfl | rfl <;> exact ⟨_, rfl⟩
  exact va_alen (x := jA (jad base ro) x) (v := jI (x.1 : Int)) hC.1 hC.2.1 hC.2.2.2.2.2.1 hI.1 a (kd - 13) hget hty Int32.ofInt_eq_ofNat.symm (jdec hi).1 (k p e R s m args below meth c D dA base ro N0 S0 Q ls H locs cells slots hC hc hs hend hL hI)
end JM
