/-! new cells, copies of rows, constants, Object() -/
/-- the fields of a new object -/
def jdv (c : Nat) : List Value := (bif Nat.ble 6 c then (bif Nat.ble 9 c then (bif Nat.ble 11 c then (bif Nat.ble 12 c then [.int 0, .int 0, .null, .null, .null, .null, .int 0, .null, .int 0, .null, .null, .null, .null, .int 0, .int 0, .int 0, .int 0, .null, .null, .null, .null, .null, .int 0, .null, .null, .int 0, .null, .int 0, .null, .int 0, .null, .int 0, .int 0, .int 0, .int 0, .int 0, .int 0, .int 0, .int 0, .null, .null, .null, .null, .null, .null, .int 0, .null, .null, .int 0, .int 0, .null, .int 0, .null, .int 0, .null, .int 0, .int 0, .int 0, .long 0, .int 0, .int 0, .null, .int 0, .null, .null, .null, .null, .null, .null, .int 0, .null, .null, .int 0, .int 0, .int 0, .null, .int 0, .null, .null, .null, .null, .int 0, .int 0, .int 0, .null] else [.null, .null, .null, .int 0, .int 0, .null, .null, .null, .int 0, .int 0, .null, .null, .null, .null, .null, .null, .null, .null, .null, .null]) else (bif Nat.ble 10 c then [.null, .int 0, .null, .null, .null, .null] else [.null, .null, .null, .null, .null, .null, .null, .null, .int 0, .int 0])) else (bif Nat.ble 7 c then (bif Nat.ble 8 c then [.null, .int 0] else [.int 0, .int 0, .null, .int 0, .int 0, .int 0, .int 0, .null, .null, .null, .null, .null, .null, .null, .null, .int 0]) else [.int 0, .int 0, .int 0, .int 0, .int 0, .null, .null, .null, .null, .null, .null, .null, .null, .null, .null, .int 0, .int 0, .int 0])) else (bif Nat.ble 3 c then (bif Nat.ble 4 c then (bif Nat.ble 5 c then [.int 0, .int 0, .int 0, .null, .null, .null] else [.null, .null, .null, .null, .null]) else [.null, .null, .int 0]) else (bif Nat.ble 1 c then (bif Nat.ble 2 c then [.null] else [.null, .int 0, .int 0, .int 0, .int 0, .int 0, .null, .null, .null, .int 0, .null, .int 0]) else [.null, .null, .null, .null, .null, .int 0, .null, .int 0, .int 0])))
theorem jdf : ∀ c, c < 13 → ∀ r, vwCl[c]? = some r → ∃ ty : Nat → FieldType, (∀ k, k < r.2.2 → parseFieldDescriptor (r.2.1 k).2.2.1 = some (ty k)) ∧ (∀ k, k < r.2.2 → defaultValue (ty k) = vp_V (jdv c) k) ∧ (jdv c).length = r.2.2 := by
  intro c hc r hr
  match c, hc with
  | 0, _ => cases hr; exact ⟨tyX0, tyX0_ok, by decide +kernel, rfl⟩
  | 1, _ => cases hr; exact ⟨tyX1, tyX1_ok, by decide +kernel, rfl⟩
  | 2, _ => cases hr; exact ⟨tyX2, tyX2_ok, by decide +kernel, rfl⟩
  | 3, _ => cases hr; exact ⟨tyX3, tyX3_ok, by decide +kernel, rfl⟩
  | 4, _ => cases hr; exact ⟨tyX4, tyX4_ok, by decide +kernel, rfl⟩
  | 5, _ => cases hr; exact ⟨tyX5, tyX5_ok, by decide +kernel, rfl⟩
  | 6, _ => cases hr; exact ⟨tyX6, tyX6_ok, by decide +kernel, rfl⟩
  | 7, _ => cases hr; exact ⟨tyX7, tyX7_ok, by decide +kernel, rfl⟩
  | 8, _ => cases hr; exact ⟨tyX8, tyX8_ok, by decide +kernel, rfl⟩
  | 9, _ => cases hr; exact ⟨tyX9, tyX9_ok, by decide +kernel, rfl⟩
  | 10, _ => cases hr; exact ⟨tyX10, tyX10_ok, by decide +kernel, rfl⟩
  | 11, _ => cases hr; exact ⟨tyX11, tyX11_ok, by decide +kernel, rfl⟩
  | 12, _ => cases hr; exact ⟨tyX12, tyX12_ok, by decide +kernel, rfl⟩
theorem jdv_map (ad : Nat → Nat) : ∀ c, c < 13 → (jdv c).map (jv ad) = jdv c := by
  intro c hc
  match c, hc with
  | 0, _ => rfl
  | 1, _ => rfl
  | 2, _ => rfl
  | 3, _ => rfl
  | 4, _ => rfl
  | 5, _ => rfl
  | 6, _ => rfl
  | 7, _ => rfl
  | 8, _ => rfl
  | 9, _ => rfl
  | 10, _ => rfl
  | 11, _ => rfl
  | 12, _ => rfl
theorem jOI1 : jAt 189 (.instanceMethod Lib.objectInit) = true := by decide +kernel
theorem jOI2 : jAt 190 (.code Lib.objectInit ⟨#[0xb1]⟩ 1 none) = true := by decide +kernel
theorem jAC1 : jAt 792 (.native arraycopyName) = true := by decide +kernel
theorem jAC2 : jAt 791 (.static arraycopyName) = true := by decide +kernel
theorem jAC3 : jAt 178 (.initialized "java/lang/System") = true := by decide +kernel
theorem jTI : jAt 224 (.arrayClass .int) = true := by decide +kernel
theorem jTZ : jAt 273 (.arrayClass .boolean) = true := by decide +kernel
theorem jTJ : jAt 1853 (.arrayClass .long) = true := by decide +kernel
def jcsOK (r : jQ4) : Bool := Nat.blt (r.2.2.1 - 4294967296) 13 && (decide (jOn r.1 = jSo (r.2.2.1 - 4294967296)) && Nat.beq r.2.1 (jSi (r.2.2.1 - 4294967296)))
theorem jCS_ok : jCS.all jcsOK = true := by decide +kernel
section JN
variable {l : Launch} {j pc : Nat} {L : jLo} {st : List Value} {G G' : jG} {v : Option Value}
theorem je_obj {idx a : Nat} (hi : jIns j pc = some (.invokespecial idx, 3, 10007)) (hst : (st.map fun v => v.category).sum ≤ 8) (hk : Nat.ble 1 (jK j) = true) (k : jE l j (pc + 3) L st G v G') : jE l j pc L (.ref a :: st) G v G' := by
  intro p e R s m args below meth c D dA base ro N0 S0 Q ls H locs cells slots hC hc hs hend hL hI
  obtain ⟨hd, hok⟩ := jdec hi
  obtain ⟨d, hd9⟩ := jHas_spec (show jHas jMO (jO j) idx 10007 = true from hok)
  have h9 := List.all_eq_true.mp jMO_ok _ hd9
  have hts := hC.2.2.2.2.1
  have hkk := Nat.le_of_ble_eq_true hk
  have hfr : jK j ≤ R.frames := hC.2.2.2.2.2.2.2.1
  have hlo : 36 * jK j ≤ R.locals := hC.2.2.2.2.2.2.2.2.1
  refine W.objInit hC.1 hC.2.1 hC.2.2.2.1 (hts _ (jAt_mem h9)) (hts _ (jAt_mem jOI1)) (hts _ (jAt_mem jOI2)) rfl (hL.1.trans hC.2.2.1.symm) rfl hd (by omega) ?_ ?_
  · show 2 * 0 + ((st.map (jv (jad base ro))).map fun v => v.category).sum + 12 ≤ R.locals
    rw [jcat_map]
    omega
  · exact k p e R s m args below meth c D dA base ro N0 S0 Q ls H locs cells slots hC hc hs hend hL hI
theorem je_gets {idx q : Nat} (hi : jIns j pc = some (.getstatic idx, 3, q)) (k : jE l j (pc + 3) L (.ref (3000000 + q) :: st) G v G') : jE l j pc L st G v G' := by
  intro p e R s m args below meth c D dA base ro N0 S0 Q ls H locs cells slots hC hc hs hend hL hI
  obtain ⟨hd, hok⟩ := jdec hi
  obtain ⟨d, hd9⟩ := jHas_spec (show jHas jGS (jO j) idx q = true from hok)
  have h9 := List.all_eq_true.mp jGS_ok _ hd9
  simp only [jgsOK, Bool.and_eq_true] at h9
  have hts := hC.2.2.2.2.1
  have hEv : jEv base ro s s.heap := hC.2.2.2.2.2.2.2.2.2.2.1
  have had : jad base ro (3000000 + q) = ro (3000000 + q) := by unfold jad; rw [if_neg (by omega)]
  refine va_gets (A := jB base) hC.1 hC.2.1 (hEv.1 q (Nat.le_of_ble_eq_true h9.1)) hI.2.1 hC.2.2.2.1 (hts _ (jAt_mem h9.2)) (fun _ h => h) hd ?_
  rw [← had]
  exact k p e R s m args below meth c D dA base ro N0 S0 Q ls H locs cells slots hC hc hs hend hL hI
theorem je_ldc {idx q : Nat} {z : Int} (hi : jIns j pc = some (.ldc idx, 2, q)) (hq : Nat.blt q 4294967296 = true) (hz : Int32.ofNat q = jI z) (k : jE l j (pc + 2) L (.int (jI z) :: st) G v G') : jE l j pc L st G v G' := by
  intro p e R s m args below meth c D dA base ro N0 S0 Q ls H locs cells slots hC hc hs hend hL hI
  obtain ⟨hd, hok⟩ := jdec hi
  simp only [jok, hq, cond_true] at hok
  obtain ⟨d, hd9⟩ := jHas_spec hok
  have h9 := jAt_mem (List.all_eq_true.mp jCI_ok _ hd9)
  rw [show Int32.ofNat (jO j, idx, q, d).2.2.1 = jI z from hz] at h9
  exact lv_ldc hC.1 hC.2.1 hC.2.2.2.1 (hC.2.2.2.2.1 _ h9) hd (k p e R s m args below meth c D dA base ro N0 S0 Q ls H locs cells slots hC hc hs hend hL hI)
theorem je_ldcw {idx q : Nat} {z : Int} (hi : jIns j pc = some (.ldc_w idx, 3, q)) (hq : Nat.blt q 4294967296 = true) (hz : Int32.ofNat q = jI z) (k : jE l j (pc + 3) L (.int (jI z) :: st) G v G') : jE l j pc L st G v G' := by
  intro p e R s m args below meth c D dA base ro N0 S0 Q ls H locs cells slots hC hc hs hend hL hI
  obtain ⟨hd, hok⟩ := jdec hi
  simp only [jok, hq, cond_true] at hok
  obtain ⟨d, hd9⟩ := jHas_spec hok
  have h9 := jAt_mem (List.all_eq_true.mp jCI_ok _ hd9)
  rw [show Int32.ofNat (jO j, idx, q, d).2.2.1 = jI z from hz] at h9
  exact lv_ldcw hC.1 hC.2.1 hC.2.2.2.1 (hC.2.2.2.2.1 _ h9) hd (k p e R s m args below meth c D dA base ro N0 S0 Q ls H locs cells slots hC hc hs hend hL hI)
theorem je_ldc2 {idx q : Nat} {z : Int} (hi : jIns j pc = some (.ldc2_w idx, 3, q)) (hz : Int64.ofNat q = jl z) (k : jE l j (pc + 3) L (.long (jl z) :: st) G v G') : jE l j pc L st G v G' := by
  intro p e R s m args below meth c D dA base ro N0 S0 Q ls H locs cells slots hC hc hs hend hL hI
  obtain ⟨hd, hok⟩ := jdec hi
  obtain ⟨d, hd9⟩ := jHas_spec (show jHas jCL (jO j) idx q = true from hok)
  have h9 := jAt_mem (List.all_eq_true.mp jCL_ok _ hd9)
  rw [show Int64.ofNat (jO j, idx, q, d).2.2.1 = jl z from hz] at h9
  exact lv_ldc2 hC.1 hC.2.1 hC.2.2.2.1 (hC.2.2.2.2.1 _ h9) hd (k p e R s m args below meth c D dA base ro N0 S0 Q ls H locs cells slots hC hc hs hend hL hI)
theorem je_ldcs {idx q : Nat} (hi : jIns j pc = some (.ldc idx, 2, 4294967296 + q)) (k : jE l j (pc + 2) L (.ref (2000000 + q) :: st) G v G') : jE l j pc L st G v G' := by
  intro p e R s m args below meth c D dA base ro N0 S0 Q ls H locs cells slots hC hc hs hend hL hI
  obtain ⟨hd, hok⟩ := jdec hi
  have hq : Nat.blt (4294967296 + q) 4294967296 = false := Bool.eq_false_iff.mpr fun z => by have := Nat.le_of_ble_eq_true z; omega
  simp only [jok, hq, cond_false] at hok
  obtain ⟨d, hd9⟩ := jHas_spec hok
  have h9 := List.all_eq_true.mp jCS_ok _ hd9
  simp only [jcsOK, Bool.and_eq_true, decide_eq_true_eq, Nat.add_sub_cancel_left] at h9
  have hEv : jEv base ro s s.heap := hC.2.2.2.2.2.2.2.2.2.2.1
  have hR := hEv.2.2.1 q (Nat.le_of_ble_eq_true h9.1)
  rw [← h9.2.1, ← Nat.eq_of_beq_eq_true h9.2.2] at hR
  have had : jad base ro (2000000 + q) = ro (2000000 + q) := by unfold jad; rw [if_neg (by omega)]
  refine va_ldcS hC.1 hC.2.1 hC.2.2.2.1 hR hd ?_
  rw [← had]
  exact k p e R s m args below meth c D dA base ro N0 S0 Q ls H locs cells slots hC hc hs hend hL hI
theorem je_new {idx c9 : Nat} (hi : jIns j pc = some (.new idx, 3, c9)) (hlim : G.2.1 < 1000000) (hb1 : G.2.1 + 1 ≤ G'.2.1) (hb2 : G.2.2 + (jdv c9).length ≤ G'.2.2) (k : jE l j (pc + 3) L (.ref G.2.1 :: st) (va_up G.1 G.2.1 (.inr (c9, jdv c9)), G.2.1 + 1, G.2.2 + (jdv c9).length) v G') : jE l j pc L st G v G' := by
  intro p e R s m args below meth c D dA base ro N0 S0 Q ls H locs cells slots hC hc hs hend hL hI
  obtain ⟨hd, hok⟩ := jdec hi
  obtain ⟨d, hd9⟩ := jHas_spec (show jHas jNW (jO j) idx c9 = true from hok)
  have h9 := List.all_eq_true.mp jNW_ok _ hd9
  have hts := hC.2.2.2.2.1
  unfold jnwOK at h9
  simp only at h9
  cases hr : vwCl[c9]? with
  | none => rw [hr] at h9; cases h9
  | some r =>
    cases hr2 : jNt[c9]? with
    | none => rw [hr, hr2] at h9; cases h9
    | some ab =>
      obtain ⟨a, b⟩ := ab
      rw [hr, hr2] at h9
      simp only [Bool.and_eq_true] at h9
      have hl13 : c9 < 13 := (List.getElem?_eq_some_iff.mp hr).1
      obtain ⟨ty, t1, t2, t3⟩ := jdf c9 hl13 r hr
      have i4 := hI.2.2.2.1
      have i5 := hI.2.2.2.2.1
      rw [t3] at k hb2
      refine va_new (ci := c9) (fs := jdv c9) (C := r.1) (T := r.2.1) (N := r.2.2) hC.1 hC.2.1 hts (jTb_ws hr) ty t1 hC.2.2.2.1 (hts _ (jAt_mem h9.1)) (hts _ (jAt_mem h9.2.1)) (hts _ (jAt_mem h9.2.2)) hC.2.2.2.2.2.1 hI.1 jWs_D hI.2.1 (fun q hq => Nat.le_trans hC.2.2.2.2.2.2.1 hq) hr t2 (by omega) (by omega) hd (fun q H1 hP hD hS => ?_)
      have e9 : (.inr (c9, jdv c9) : va_E) = jcell (jad base ro) dA (.inr (c9, jdv c9)) := by show _ = (.inr (c9, (jdv c9).map (jv (jad base ro))) : va_E); rw [jdv_map _ _ hl13]
      rw [e9] at hP hD
      exact jx_alloc hI hlim hP hD hS (fun hI1 => k p e R s m args below meth c D dA base ro N0 S0 Q ls H1 locs _ _ hC hc hs hend hL hI1)
theorem je_newai {z : Int} (hi : jIns j pc = some (.newarray .int, 2, 0)) (h0 : 0 ≤ z) (h1 : z ≤ 60000) (hlim : G.2.1 < 1000000) (hb1 : G.2.1 + 1 ≤ G'.2.1) (hb2 : G.2.2 + z.toNat ≤ G'.2.2) (k : jE l j (pc + 2) L (.ref G.2.1 :: st) (va_up G.1 G.2.1 (.inl (13, z.toNat, .inl (fun _ => 0))), G.2.1 + 1, G.2.2 + z.toNat) v G') : jE l j pc L (.int (jI z) :: st) G v G' := by
  intro p e R s m args below meth c D dA base ro N0 S0 Q ls H locs cells slots hC hc hs hend hL hI
  have i4 := hI.2.2.2.1
  have i5 := hI.2.2.2.2.1
  have hts := hC.2.2.2.2.1
  refine va_newa (atype := .int) (ty := .int) (a0 := (z.toNat, .inl (fun _ => 0))) hC.1 hC.2.1 (hts _ (jAt_mem jTI)) rfl hC.2.2.2.2.2.1 hI.1 jWs_D hI.2.1 (fun q hq => Nat.le_trans hC.2.2.2.2.2.2.1 hq) (fun _ => rfl) (fun q => by have := (jI_lt ⟨by omega, by omega⟩ jr_0).mp (show jI z < jI 0 from q); omega) (jI_clamp h0 (by omega)) (by show z.toNat * 4 ≤ 536870912; omega) (by omega) (by omega) (jdec hi).1 (fun q cA H1 hK1 hP hD hS => ?_)
  have ecA : cA = dA 13 := by
    have q1 := (hK1.2 5 (cA, .int) rfl).2
    have q2 := (hC.2.2.2.2.2.1.2 0 (dA 13, .int) rfl).2
    exact Option.some.inj (q1.symm.trans q2)
  subst ecA
  exact jx_alloc (c9 := .inl (13, z.toNat, .inl (fun _ => 0))) hI hlim hP hD hS (fun hI1 => k p e R s m args below meth c D dA base ro N0 S0 Q ls H1 locs _ _ hC hc hs hend hL hI1)
theorem je_newaz {z : Int} (hi : jIns j pc = some (.newarray .boolean, 2, 0)) (h0 : 0 ≤ z) (h1 : z ≤ 60000) (hlim : G.2.1 < 1000000) (hb1 : G.2.1 + 1 ≤ G'.2.1) (hb2 : G.2.2 + z.toNat ≤ G'.2.2) (k : jE l j (pc + 2) L (.ref G.2.1 :: st) (va_up G.1 G.2.1 (.inl (15, z.toNat, .inl (fun _ => 0))), G.2.1 + 1, G.2.2 + z.toNat) v G') : jE l j pc L (.int (jI z) :: st) G v G' := by
  intro p e R s m args below meth c D dA base ro N0 S0 Q ls H locs cells slots hC hc hs hend hL hI
  have i4 := hI.2.2.2.1
  have i5 := hI.2.2.2.2.1
  have hts := hC.2.2.2.2.1
  refine va_newa (atype := .boolean) (ty := .boolean) (a0 := (z.toNat, .inl (fun _ => 0))) hC.1 hC.2.1 (hts _ (jAt_mem jTZ)) rfl hC.2.2.2.2.2.1 hI.1 jWs_D hI.2.1 (fun q hq => Nat.le_trans hC.2.2.2.2.2.2.1 hq) (fun _ => rfl) (fun q => by have := (jI_lt ⟨by omega, by omega⟩ jr_0).mp (show jI z < jI 0 from q); omega) (jI_clamp h0 (by omega)) (by show z.toNat * 1 ≤ 536870912; omega) (by omega) (by omega) (jdec hi).1 (fun q cA H1 hK1 hP hD hS => ?_)
  have ecA : cA = dA 15 := by
    have q1 := (hK1.2 5 (cA, .boolean) rfl).2
    have q2 := (hC.2.2.2.2.2.1.2 2 (dA 15, .boolean) rfl).2
    exact Option.some.inj (q1.symm.trans q2)
  subst ecA
  exact jx_alloc (c9 := .inl (15, z.toNat, .inl (fun _ => 0))) hI hlim hP hD hS (fun hI1 => k p e R s m args below meth c D dA base ro N0 S0 Q ls H1 locs _ _ hC hc hs hend hL hI1)
theorem je_newal {z : Int} (hi : jIns j pc = some (.newarray .long, 2, 0)) (h0 : 0 ≤ z) (h1 : z ≤ 60000) (hlim : G.2.1 < 1000000) (hb1 : G.2.1 + 1 ≤ G'.2.1) (hb2 : G.2.2 + z.toNat ≤ G'.2.2) (k : jE l j (pc + 2) L (.ref G.2.1 :: st) (va_up G.1 G.2.1 (.inl (14, z.toNat, .inr (.inl (fun _ => 0)))), G.2.1 + 1, G.2.2 + z.toNat) v G') : jE l j pc L (.int (jI z) :: st) G v G' := by
  intro p e R s m args below meth c D dA base ro N0 S0 Q ls H locs cells slots hC hc hs hend hL hI
  have i4 := hI.2.2.2.1
  have i5 := hI.2.2.2.2.1
  have hts := hC.2.2.2.2.1
  refine va_newa (atype := .long) (ty := .long) (a0 := (z.toNat, .inr (.inl (fun _ => 0)))) hC.1 hC.2.1 (hts _ (jAt_mem jTJ)) rfl hC.2.2.2.2.2.1 hI.1 jWs_D hI.2.1 (fun q hq => Nat.le_trans hC.2.2.2.2.2.2.1 hq) (fun _ => rfl) (fun q => by have := (jI_lt ⟨by omega, by omega⟩ jr_0).mp (show jI z < jI 0 from q); omega) (jI_clamp h0 (by omega)) (by show z.toNat * 8 ≤ 536870912; omega) (by omega) (by omega) (jdec hi).1 (fun q cA H1 hK1 hP hD hS => ?_)
  have ecA : cA = dA 14 := by
    have q1 := (hK1.2 5 (cA, .long) rfl).2
    have q2 := (hC.2.2.2.2.2.1.2 1 (dA 14, .long) rfl).2
    exact Option.some.inj (q1.symm.trans q2)
  subst ecA
  exact jx_alloc (c9 := .inl (14, z.toNat, .inr (.inl (fun _ => 0)))) hI hlim hP hD hS (fun hI1 => k p e R s m args below meth c D dA base ro N0 S0 Q ls H1 locs _ _ hC hc hs hend hL hI1)
theorem je_newq {idx kd : Nat} {z : Int} (hi : jIns j pc = some (.anewarray idx, 3, kd)) (h0 : 0 ≤ z) (h1 : z ≤ 60000) (hlim : G.2.1 < 1000000) (hb1 : G.2.1 + 1 ≤ G'.2.1) (hb2 : G.2.2 + z.toNat ≤ G'.2.2) (k : jE l j (pc + 3) L (.ref G.2.1 :: st) (va_up G.1 G.2.1 (.inl (kd, z.toNat, .inr (.inr (.inr (.inr (fun _ => none)))))), G.2.1 + 1, G.2.2 + z.toNat) v G') : jE l j pc L (.int (jI z) :: st) G v G' := by
  intro p e R s m args below meth c D dA base ro N0 S0 Q ls H locs cells slots hC hc hs hend hL hI
  obtain ⟨hd, hok⟩ := jdec hi
  obtain ⟨d, hd9⟩ := jHas_spec (show jHas jAW (jO j) idx kd = true from hok)
  have h9 := List.all_eq_true.mp jAW_ok _ hd9
  simp only [jawOK, Bool.and_eq_true, Bool.or_eq_true] at h9
  have i4 := hI.2.2.2.1
  have i5 := hI.2.2.2.2.1
  have hts := hC.2.2.2.2.1
  have hEv : jEv base ro s s.heap := hC.2.2.2.2.2.2.2.2.2.2.1
  have key : ∀ t0 : Nat, (jTy dA)[t0]? = some (dA kd, FieldType.object (jAn kd)) → va_AO (jAn kd) s → W p l e R s m args below meth c H locs cells slots Q (F0 m pc ls (.int (jI z) :: st.map (jv (jad base ro)))) := by
    intro t0 ht0 hov
    refine va_newq (C := jAn kd) hC.1 hC.2.1 hC.2.2.2.1 (hts _ (jAt_mem h9.2)) hov hC.2.2.2.2.2.1 hI.1 jWs_D hI.2.1 (fun q hq => Nat.le_trans hC.2.2.2.2.2.2.1 hq) (fun q => by have := (jI_lt ⟨by omega, by omega⟩ jr_0).mp (show jI z < jI 0 from q); omega) (jI_clamp h0 (by omega)) (by omega) (by omega) (by omega) hd (fun q cA H1 hK1 hP hD hS => ?_)
    have ecA : cA = dA kd := by
      obtain ⟨kA, comp, -, -, -, q1⟩ := (hK1.2 5 (cA, FieldType.object (jAn kd)) rfl).2
      obtain ⟨kA2, comp2, -, -, -, q2⟩ := (hC.2.2.2.2.2.1.2 t0 (dA kd, FieldType.object (jAn kd)) ht0).2
      exact Option.some.inj (q1.symm.trans q2)
    subst ecA
    exact jx_alloc (c9 := .inl (kd, z.toNat, .inr (.inr (.inr (.inr (fun _ => none)))))) hI hlim hP hD hS (fun hI1 => k p e R s m args below meth c D dA base ro N0 S0 Q ls H1 locs _ _ hC hc hs hend hL hI1)
  rcases h9.1 with z9 | z9
  · have e9 : kd = 16 := Nat.eq_of_beq_eq_true z9
    subst e9
    exact key 3 rfl hEv.2.2.2.2.2.1
  · have e9 : kd = 17 := Nat.eq_of_beq_eq_true z9
    subst e9
    exact key 4 rfl hEv.2.2.2.2.2.2
theorem je_aast {a n kd b ci : Nat} {f : Nat → Option Nat} {vs : List Value} {z : Int} (hi : jIns j pc = some (.aastore, 1, 0)) (hkd : (kd = 16 ∧ ci = 8) ∨ (kd = 17 ∧ ci = 9)) (hg : G.1 a = .inl (kd, n, .inr (.inr (.inr (.inr f))))) (hb : G.1 b = .inr (ci, vs)) (h0 : 0 ≤ z) (h1 : z < (n : Int)) (hn : n ≤ 2147483647) (k : jE l j (pc + 1) L st (jup G a (.inl (kd, n, .inr (.inr (.inr (.inr (va_up f z.toNat (some b)))))))) v G') : jE l j pc L (.ref b :: .int (jI z) :: .ref a :: st) G v G' := by
  intro p e R s m args below meth c D dA base ro N0 S0 Q ls H locs cells slots hC hc hs hend hL hI
  obtain ⟨hN, had⟩ := jIv_arr hI (by omega) hg
  have hget := jIv_get hI hN
  rw [hg] at hget
  obtain ⟨hN2, had2⟩ := jIv_obj hI (by omega) hb
  have hget2 := jIv_get hI hN2
  rw [hb] at hget2
  have ee : (fun k => ((va_up f z.toNat (some b)) k).map (jad base ro)) = va_up (fun k => (f k).map (jad base ro)) z.toNat (some (jad base ro b)) := by
    funext q
    unfold va_up
    by_cases hq : q = z.toNat <;> simp [hq]
  have key : ∀ (r : vw_C) (t0 : Nat), vwCl[ci]? = some r → (jTy dA)[t0]? = some (dA kd, FieldType.object r.1) → W p l e R s m args below meth c H locs cells slots Q (F0 m pc ls (.ref (jad base ro b) :: .int (jI z) :: .ref (jad base ro a) :: st.map (jv (jad base ro)))) := by
    intro r t0 hr ht0
    refine va_astq hC.1 hC.2.1 hC.2.2.2.2.2.1 hI.1 jWs_D hI.2.1 a t0 b ci hget ht0 hget2 hr (jI_in h0 h1 hn) (jdec hi).1 (fun H1 locs1 hP hD hS => ?_)
    rw [jI_clamp h0 (by omega)] at hP
    refine k p e R s m args below meth c D dA base ro N0 S0 Q ls H1 locs1 cells slots hC hc hs hend hL (jIv_put hI hN (.inl (kd, n, .inr (.inr (.inr (.inr (va_up f z.toNat (some b))))))) ?_ hS)
    show va_P D vwCl ((jWs dA base ro G).set a (jad base ro a, .inl (dA kd, n, .inr (.inr (.inr (.inr (fun k => ((va_up f z.toNat (some b)) k).map (jad base ro)))))))) H1
    rw [ee]
    exact hP
  rcases hkd with ⟨rfl, rfl⟩ | ⟨rfl, rfl⟩
  · exact key _ 3 rfl rfl
  · exact key _ 4 rfl rfl
theorem je_copy {idx a0 a n0 n1 kd : Nat} {f g : Nat → Int32} {sp dp n : Int} (hi : jIns j pc = some (.invokestatic idx, 3, 10004)) (hkd : kd = 13 ∨ (kd = 15 ∧ ∀ i, i < n.toNat → f (sp.toNat + i) = 0 ∨ f (sp.toNat + i) = 1)) (hg0 : G.1 a0 = .inl (kd, n0, .inl f)) (hg1 : G.1 a = .inl (kd, n1, .inl g)) (h1 : 0 ≤ sp) (h2 : 0 ≤ dp) (h3 : 0 ≤ n) (h4 : sp + n ≤ (n0 : Int)) (h5 : dp + n ≤ (n1 : Int)) (hn0 : n0 ≤ 2147483647) (hn1 : n1 ≤ 2147483647) (hst : (st.map fun v => v.category).sum ≤ 8) (hk : Nat.ble 1 (jK j) = true) (k : jE l j (pc + 3) L st (jup G a (.inl (kd, n1, .inl (va_cpy f g sp.toNat dp.toNat n.toNat)))) v G') : jE l j pc L (.int (jI n) :: .int (jI dp) :: .ref a :: .int (jI sp) :: .ref a0 :: st) G v G' := by
  intro p e R s m args below meth c D dA base ro N0 S0 Q ls H locs cells slots hC hc hs hend hL hI
  obtain ⟨hd, hok⟩ := jdec hi
  obtain ⟨d, hd9⟩ := jHas_spec (show jHas jMA (jO j) idx 10004 = true from hok)
  have h9 := List.all_eq_true.mp jMA_ok _ hd9
  have hts := hC.2.2.2.2.1
  have hkk := Nat.le_of_ble_eq_true hk
  have hfr : jK j ≤ R.frames := hC.2.2.2.2.2.2.2.1
  have hlo : 36 * jK j ≤ R.locals := hC.2.2.2.2.2.2.2.2.1
  obtain ⟨hN0, had0⟩ := jIv_arr hI (by omega) hg0
  have hget0 := jIv_get hI hN0
  rw [hg0] at hget0
  obtain ⟨hN1, had1⟩ := jIv_arr hI (by omega) hg1
  have hget1 := jIv_get hI hN1
  rw [hg1] at hget1
  have nn : ∀ z : Int, 0 ≤ z → z < 2147483648 → ¬ jI z < 0 := fun z q1 q2 q => by
    have := (jI_lt ⟨by omega, by omega⟩ jr_0).mp (show jI z < jI 0 from q)
    omega
  have key : ∀ (ty : FieldType) (t0 : Nat), (jTy dA)[t0]? = some (dA kd, ty) → refKind ty = false → (∀ i, i < n.toNat → fits ty (.int (f (sp.toNat + i))) = true) → W p l e R s m args below meth c H locs cells slots Q (F0 m pc ls (.int (jI n) :: .int (jI dp) :: .ref (jad base ro a) :: .int (jI sp) :: .ref (jad base ro a0) :: st.map (jv (jad base ro)))) := by
    intro ty t0 ht0 hrk hft
    refine va_copyi hC.1 hC.2.1 (hC.2.2.1.trans hL.1.symm) hC.2.2.2.1 (hts _ (jAt_mem h9)) (hts _ (jAt_mem jAC1)) (hts _ (jAt_mem jAC2)) (hts _ (jAt_mem jAC3)) hC.2.2.2.2.2.1 hI.1 jWs_D hI.2.1 a0 a t0 t0 hget0 hget1 ht0 ht0 hrk (nn _ h1 (by omega)) (nn _ h2 (by omega)) (nn _ h3 (by omega)) (by rw [jI_clamp h1 (by omega), jI_clamp h3 (by omega)]; show sp.toNat + n.toNat ≤ n0; omega) (by rw [jI_clamp h2 (by omega), jI_clamp h3 (by omega)]; show dp.toNat + n.toNat ≤ n1; omega) (by rw [jI_clamp h1 (by omega), jI_clamp h3 (by omega)]; exact hft) (by omega) ?_ hd (fun H1 locs1 hP hD hS => ?_)
    · rw [jcat_map]
      have : nativeFrameWords "java/lang/System" "arraycopy" 5 = 7 := by decide
      omega
    · rw [jI_clamp h1 (by omega), jI_clamp h2 (by omega), jI_clamp h3 (by omega)] at hP
      exact k p e R s m args below meth c D dA base ro N0 S0 Q ls H1 locs1 cells slots hC hc hs hend hL (jIv_put hI hN1 (.inl (kd, n1, .inl (va_cpy f g sp.toNat dp.toNat n.toNat))) hP hS)
  rcases hkd with rfl | ⟨rfl, hf⟩
  · exact key .int 0 rfl rfl (fun _ _ => rfl)
  · exact key .boolean 2 rfl rfl (fun i hi => by rcases hf i hi with z | z <;> rw [z] <;> rfl)
end JN
