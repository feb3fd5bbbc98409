/-! the start of the machine, as the rows above have it -/
theorem g_K {args : Array Value} {s : State} (hts : ∀ w ∈ lw_tbl, w.before args s = true) : ∃ (D : va_G) (dA : Nat → ClassId), va_K D vwCl (jTy dA) s := by
  have htb : ∀ w ∈ jTb, w.before args s = true := fun w hw => hts w (jTb_good hw).1
  have hc : ∀ c : Nat, ∃ q : ClassId × (Nat → Nat), ∀ r, vwCl[c]? = some r → u_Kn s r.1 r.2.1 r.2.2 q.1 q.2 := by
    intro c
    cases e : vwCl[c]? with
    | none => exact ⟨(0, fun _ => 0), fun r h => by cases h⟩
    | some r =>
      have hl : c < 13 := (List.getElem?_eq_some_iff.mp e).1
      obtain ⟨cC, iS, h⟩ := u_known (C := r.1) (T := r.2.1) (N := r.2.2) (n := r.2.2) htb (jTb_ws e) (htb _ (g_in c hl r e))
      exact ⟨(cC, iS), fun r' h' => by cases h'; exact h⟩
  obtain ⟨d, hd⟩ := Classical.axiomOfChoice hc
  obtain ⟨ci, ki, coi, i1, i2, i3⟩ := Cond.arrayClass_spec (hts _ g_t4.1)
  obtain ⟨cl, kl, col, l1, l2, l3⟩ := Cond.arrayClass_spec (hts _ g_t4.2.1)
  obtain ⟨cz, kz, coz, z1, z2, z3⟩ := Cond.arrayClass_spec (hts _ g_t4.2.2)
  obtain ⟨cor, cr, kr, r1, -, r3, r4, r5⟩ := Cond.arrayOver_spec (hts _ g_t3.1)
  obtain ⟨cos, cs, ks, s1, -, s3, s4, s5⟩ := Cond.arrayOver_spec (hts _ g_t3.2)
  refine ⟨(fun c => (d c).1, fun c => (d c).2), fun k => bif Nat.beq k 13 then ci else bif Nat.beq k 14 then cl else bif Nat.beq k 15 then cz else bif Nat.beq k 16 then cr else cs, fun c q hq => hd c q hq, fun k q hq => ?_⟩
  match k, hq with
  | 0, hq => cases hq; exact ⟨fun n z => ⟨fun k h => (by cases h), ki, i2, coi, i3⟩, i1⟩
  | 1, hq => cases hq; exact ⟨fun n z => ⟨fun k h => (by cases h), kl, l2, col, l3⟩, l1⟩
  | 2, hq => cases hq; exact ⟨fun n z => ⟨fun k h => (by cases h), kz, z2, coz, z3⟩, z1⟩
  | 3, hq => cases hq; exact ⟨fun n z => ⟨fun k h => (by cases h), kr, r3, cor, r4⟩, kr, cor, r3, r4, r1, r5⟩
  | 4, hq => cases hq; exact ⟨fun n z => ⟨fun k h => (by cases h), ks, s3, cos, s4⟩, ks, cos, s3, s4, s1, s5⟩
  | k + 5, hq => cases hq
theorem g_E {args : Array Value} {s : State} (b : Nat) (hts : ∀ w ∈ lw_tbl, w.before args s = true) (hgv : (Cond.and given_1 narrow_1).before args s = true) : ∃ ro : Nat → Nat, ro 1000000 = b ∧ jEv s.heap.size ro s s.heap ∧ ∀ k, k < 3 → va_T .int (ro (3000000 + k)) 5 (fun j => .int (jI (jst (3000000 + k) j))) (jB s.heap.size) s s.heap := by
  have hs := flat_of_before _ hgv
  have hA : ∀ a : Nat, a < s.heap.size → ¬ jB s.heap.size a := fun a h z => absurd z (Nat.not_le.mpr h)
  have st : ∀ k : Nat, ∃ t : Nat, k < 3 → (Term.static "TailPatches" (jSn k) "[I").eval args s none [] s = some (.ref t) ∧ va_T .int t 5 (fun j => .int (jI (jst (3000000 + k) j))) (jB s.heap.size) s s.heap := by
    intro k
    by_cases hk : k < 3
    · obtain ⟨t, h1, h2⟩ := va_Tof (tm := .static "TailPatches" (jSn k) "[I") (ty := .int) (N := 5) (f := fun j => .int (jI (jst (3000000 + k) j))) (A := jB s.heap.size) (by decide) (hs _ (g_s1 k hk).1) (va_eqt (hs _ (g_s1 k hk).2)) (fun j hj => va_eqt (hs _ (g_s2 k hk j hj))) hA
      exact ⟨t, fun _ => ⟨h1, h2⟩⟩
    · exact ⟨0, fun h => absurd h hk⟩
  obtain ⟨t, ht⟩ := Classical.axiomOfChoice st
  have hlen : ∀ i : Nat, i < 13 → jSls.getD i 0 < 2 ^ 31 := by decide +kernel
  obtain ⟨adK, adV, hS, hE⟩ := vk_Sof (args := args) (s := s) (N := 13) (tm := jtm) (len := jSls) (byt := jSbs) (A := jB s.heap.size) hlen (fun i hi => hs _ (g_ex i hi)) (fun i hi => hs _ (g_co i hi)) (fun i hi => hs _ (g_ar i hi)) (fun i hi => hs _ (g_le i hi)) (fun i hi j hj => hs _ (g_el i hi j hj)) (fun i j hi hj hij => by
    by_cases c : i < j
    · exact Or.inl (hs _ (g_n0 j hj i c))
    · exact Or.inr (hs _ (g_n0 i hi j (by omega)))) hA
  refine ⟨fun i => if i = 1000000 then b else if i < 3000000 then adK (i - 2000000) else t (i - 3000000), rfl, ⟨fun k hk => ?_, ⟨adV, ?_⟩, fun k hk => ?_, ?_, ?_, va_AO.of (hts _ g_t3.1), va_AO.of (hts _ g_t3.2)⟩, fun k hk => ?_⟩
  · show va_Z "TailPatches" (jSn k) "[I" (.ref (if 3000000 + k = 1000000 then b else if 3000000 + k < 3000000 then adK (3000000 + k - 2000000) else t (3000000 + k - 3000000))) _ _ _
    rw [if_neg (by omega), if_neg (by omega), Nat.add_sub_cancel_left]
    exact va_Zof (hts _ (g_s3 k hk)) (hts _ g_t1.1) (ht k hk).1 hA
  · have e : ∀ k, k < 13 → (if 2000000 + k = 1000000 then b else if 2000000 + k < 3000000 then adK (2000000 + k - 2000000) else t (2000000 + k - 3000000)) = adK k := fun k hk => by rw [if_neg (by omega), if_pos (by omega), Nat.add_sub_cancel_left]
    refine ⟨fun i hi => ?_, fun i j hi hj q => ?_⟩
    · show va_O _ (if 2000000 + i = 1000000 then b else if 2000000 + i < 3000000 then adK (2000000 + i - 2000000) else t (2000000 + i - 3000000)) _ _ _ ∧ va_OF _ _ _ _ (if 2000000 + i = 1000000 then b else if 2000000 + i < 3000000 then adK (2000000 + i - 2000000) else t (2000000 + i - 3000000)) _ _ _ ∧ va_OF _ _ _ _ (if 2000000 + i = 1000000 then b else if 2000000 + i < 3000000 then adK (2000000 + i - 2000000) else t (2000000 + i - 3000000)) _ _ _ ∧ _
      rw [e i hi]
      exact hS.1 i hi
    · have q2 : (if 2000000 + i = 1000000 then b else if 2000000 + i < 3000000 then adK (2000000 + i - 2000000) else t (2000000 + i - 3000000)) = (if 2000000 + j = 1000000 then b else if 2000000 + j < 3000000 then adK (2000000 + j - 2000000) else t (2000000 + j - 3000000)) := q
      rw [e i hi, e j hj] at q2
      exact hS.2 i j hi hj q2
  · show vk_R (jSo k) (jSi k) (jSt k) (if 2000000 + k = 1000000 then b else if 2000000 + k < 3000000 then adK (2000000 + k - 2000000) else t (2000000 + k - 3000000)) s
    rw [if_neg (by omega), if_pos (by omega), Nat.add_sub_cancel_left]
    exact vk_R.of (hts _ (g_sr k hk)) (hE k hk)
  · exact va_Zof (hts _ g_t1.2.1) (hts _ g_t1.2.2) (va_eqi (hs _ g_c1.1)) hA
  · exact va_Zqof (hts _ g_t2.1) (hts _ g_t2.2) (hs _ g_c1.2) hA
  · show va_T .int (if 3000000 + k = 1000000 then b else if 3000000 + k < 3000000 then adK (3000000 + k - 2000000) else t (3000000 + k - 3000000)) 5 _ _ _ _
    rw [if_neg (by omega), if_neg (by omega), Nat.add_sub_cancel_left]
    exact (ht k hk).2
theorem g_RO {s : State} {ro : Nat → Nat} {b L : Nat} {xs : Nat → Int32} (hb : ro 1000000 = b) (hX : va_X b L xs s s.heap) (hbl : b < s.heap.size) (hT : ∀ k, k < 3 → va_T .int (ro (3000000 + k)) 5 (fun j => .int (jI (jst (3000000 + k) j))) (jB s.heap.size) s s.heap) : jRO s.heap.size ro (mkL (h0 (L : Int) (fun k => (xs k).toInt)) [] 0 0) s s.heap := by
  intro i hi
  have e : (mkL (h0 (L : Int) (fun k => (xs k).toInt)) [] 0 0).1 i = jm (h0 (L : Int) (fun k => (xs k).toInt)) i := by rw [mkL_b rfl (Or.inr hi), jn_hi (by omega)]
  rw [e]
  by_cases c : i = 1000000
  · subst c
    refine Or.inr ⟨L, fun k => jI ((xs k).toInt), rfl, ?_⟩
    obtain ⟨scr, h1, h2, h3, h4, h5⟩ := hX
    rw [hb]
    refine ⟨scr, h1, h2, h3, by omega, by rw [h4], fun j hj => ?_, Nat.not_le.mpr hbl⟩
    rw [h5 j hj]
    show some (Value.int (xs j)) = some (Value.int (Int32.ofInt ((xs j).toInt)))
    rw [Int32.ofInt_toInt]
  · by_cases c2 : 3000000 ≤ i ∧ i ≤ 3000002
    · obtain ⟨k, hk⟩ : ∃ k, i = 3000000 + k := ⟨i - 3000000, by omega⟩
      have k3 : k < 3 := by omega
      subst hk
      refine Or.inr ⟨5, fun j => jI (jst (3000000 + k) j), ?_, hT k k3⟩
      rcases (show k = 0 ∨ k = 1 ∨ k = 2 by omega) with rfl | rfl | rfl <;> rfl
    · refine Or.inl ?_
      unfold jm
      rw [show Nat.ble 1000000 i = true from Nat.ble_eq_true_of_le hi, show Nat.beq i 1000000 = false from Bool.eq_false_iff.mpr (fun z => c (Nat.eq_of_beq_eq_true z)), show (Nat.ble 3000000 i && Nat.ble i 3000002) = false from Bool.eq_false_iff.mpr (fun z => c2 (by rw [Bool.and_eq_true] at z; exact ⟨Nat.le_of_ble_eq_true z.1, Nat.le_of_ble_eq_true z.2⟩))]
      rfl
set_option maxRecDepth 20000 in
set_option maxHeartbeats 4000000 in
theorem whole_start {p : Program} {e : Env} {s : State} {m : MethodId} {below : List Frame} {meth : Method} {c : Code} (l : Launch) (hflags : l.flags = flags0) {b L : Nat} {xs : Nat → Int32} (hL : L ≤ 3072) (C0 : lw_At p s m meth c b L xs) : W p l e room_1 s m #[Value.ref b] below meth c s.heap [] 0 0 (lw_Z below #[Value.ref b] s) (entryFrame m ([Value.ref b] : List Value).toArray 4) := by
  obtain ⟨hx, hb, hr, hml, hown, hts, hX, hbl, hlocks, hgv⟩ := C0
  obtain ⟨D, dA, hK⟩ := g_K hts
  obtain ⟨ro, hro, hEv, hT⟩ := g_E b hts hgv
  have hRO := g_RO hro hX hbl hT
  obtain ⟨h', hE⟩ := lw_E l (L : Int) (fun k => (xs k).toInt) (by omega) (by omega) (fun q => ⟨by have := Int32.le_toInt (xs q); omega, by have := Int32.toInt_lt (xs q); omega⟩)
  rw [lg_entry_eq]
  have hls := jent_ls (ad := jad s.heap.size ro) (n := 4) (av := [.ref 1000000]) (Nat.le_of_ble_eq_true rfl)
  have ead : ([.ref 1000000] : List Value).map (jv (jad s.heap.size ro)) = [.ref b] := by
    show [Value.ref (if 1000000 < 1000000 then s.heap.size + 1000000 else ro 1000000)] = [Value.ref b]
    rw [if_neg (by omega), hro]
  rw [ead] at hls
  refine hE p e room_1 s m #[Value.ref b] below meth c D dA s.heap.size ro 0 0 (lw_Z below #[Value.ref b] s) _ s.heap [] 0 0 ⟨hx, hb, hml, hown, fun w hw => hts w (jTb_good hw).1, hK, Nat.le_refl _, Nat.le_of_ble_eq_true rfl, Nat.le_of_ble_eq_true rfl, fun q => absurd q (by decide +kernel), hEv, hlocks⟩ (Nat.le_of_ble_eq_true rfl) (Nat.le_of_ble_eq_true rfl) (fun pcr lsr sr H' locs' cells' slots' hrt hI' => ?_) hls ⟨fun k q h => ?_, va_S.rf, rfl, rfl, rfl, fun i _ hi => ?_, Nat.le_of_ble_eq_true rfl, hRO⟩
  · obtain ⟨r1, r2⟩ := hrt
    subst r2
    obtain ⟨i1, i2, i3, i4, i5, i6, i7, i8⟩ := hI'
    have c1 : 0 + cells' = 434 := i4
    have c2 : 0 + slots' = 58835 := i5
    exact va_forget (fun q hq => i2.2.2 q hq) (W.widen (k := 600000) (n := 7302250) (by omega) (by omega) (lw_ret hx hb hr hlocks (jdec r1).1))
  · have h2 : (jWs dA s.heap.size ro (mkL (h0 (L : Int) (fun k => (xs k).toInt)) [] 0 0))[k]? = some q := h
    rw [List.getElem?_eq_none (by simp [jWs, mkL])] at h2
    cases h2
  · show bas (h0 (L : Int) (fun k => (xs k).toInt)) 0 i = jJ
    unfold bas
    rw [if_neg (by omega)]
