/-! the tails, of the reference: reachOf, common, isAhead, layTails, commonAt -/
theorem ahd_r {R : Nat → Int} (hR : Rok R) {p q : Int} (p0 : 0 ≤ p) (q0 : 0 ≤ q) : zb (ahd R p q) = if com R p q = tsz R p ∨ com R p q = tsz R q then (if tsz R p ≠ tsz R q then (if tsz R p < tsz R q then 1 else 0) else if p < q then 1 else 0) else if R (6 + (p + com R p q).toNat) < R (6 + (q + com R p q).toNat) then 1 else 0 := by
  have he := com_end hR p0 q0
  cases e1 : opn R (p + com R p q) with
  | false =>
    have t1 := he.1 e1
    rw [if_pos (Or.inl t1.symm)]
    cases e2 : opn R (q + com R p q) with
    | false =>
      have t2 := he.2.1 e2
      rw [ahd, e1, e2, if_neg (by omega)]
      by_cases c : p < q
      · rw [if_pos c]; exact zb_t (decide_eq_true c)
      · rw [if_neg c]; exact zb_f (decide_eq_false c)
    | true =>
      have t2 := he.2.2.2 e2
      rw [ahd, e1, e2, if_pos (by omega), if_pos (by omega)]; rfl
  | true =>
    have t1 := he.2.2.1 e1
    cases e2 : opn R (q + com R p q) with
    | false =>
      have t2 := he.2.1 e2
      rw [ahd, e1, e2, if_pos (Or.inr t2.symm), if_pos (by omega), if_neg (by omega)]; rfl
    | true =>
      have t2 := he.2.2.2 e2
      rw [ahd, e1, e2, if_neg (by omega)]
      by_cases c : R (6 + (p + com R p q).toNat) < R (6 + (q + com R p q).toNat)
      · rw [if_pos c]; exact zb_t (decide_eq_true c)
      · rw [if_neg c]; exact zb_f (decide_eq_false c)
set_option maxRecDepth 20000 in
set_option maxHeartbeats 1000000 in
theorem r_reachOf_lp (l : Launch) (h : jH) (ok : Rok (h 390)) (p : Int) (p0 : 0 ≤ p) (p64 : p ≤ 64) (P : Option Value → jH → Prop) (hP : P (some (.int (jI (tsz (h 390) p : Int)))) h) : ∀ (m k : Nat), 64 - k < m → k ≤ 64 → (∀ i : Nat, i < k → opn (h 390) (p + i) = true) → jT l 233 2 [some (.ref 388), some (.int (jI p)), some (.int (jI (p + (k : Int))))] [] h P := by
  have ok9 := ok
  obtain ⟨k1, k2, k3, k4, k5, k6, k7⟩ := ok9
  intro m
  induction m with
  | zero => intro k hk; omega
  | succ m ih =>
    intro k hk hkK hi
    refine tl_iload_n rfl rfl ?_
    refine tl_aload_n rfl rfl ?_
    refine tl_iconst rfl ?_
    refine tl_v1i (c9 := 12) (c_sizeOf l _ 0 (by decide) (by decide)) rfl rfl rfl rfl rfl (Nat.le_of_ble_eq_true rfl) (fun z1 h1 p1 => ?_)
    obtain ⟨q1, rfl⟩ := p1
    have q1 := q1.symm
    subst q1
    rw [show (5 + 65 * 0 : Int).toNat = 5 from rfl]
    refine tl_icmp_ge (tgt := 25) rfl rfl ⟨by omega, by omega⟩ ⟨by omega, by omega⟩ (fun c1 => ?_) (fun c1 => ?_)
    · skip
      refine tl_iload_n rfl rfl ?_
      show jT _ _ 26 _ _ _ _
      refine tl_iload_n rfl rfl ?_
      refine tl_isub rfl ?_
      refine tl_iret rfl ?_
      -- leaf 0 at 28
      have e : tsz (h 390) p = k := tsz_u (by omega) hi (opn_f (by omega))
      rw [e] at hP
      rw [show p + (k : Int) - p = (k : Int) by omega]
      exact hP
    · show jT _ _ 11 _ _ _ _
      refine tl_aload_n rfl rfl ?_
      refine tl_iload_n rfl rfl ?_
      refine tl_v1i (c9 := 12) (c_isBarred l h (p + (k : Int)) (by omega) (by omega) (by rw [show (1103 + (p + (k : Int))).toNat = 1103 + (p + (k : Int)).toNat by omega]; have := k7 (p + (k : Int)).toNat (by omega); exact ⟨by omega, by omega⟩)) rfl rfl rfl rfl rfl (Nat.le_of_ble_eq_true rfl) (fun z3 h3 p3 => ?_)
      obtain ⟨q3, p3⟩ := p3
      have q3 := q3.symm
      subst q3
      rw [show (1103 + (p + (k : Int))).toNat = 1103 + (p + (k : Int)).toNat by omega] at p3
      have b3 := k7 (p + (k : Int)).toNat (by omega)
      have z03 : z3 = h 390 (1103 + (p + (k : Int)).toNat) := by rw [p3]; split <;> omega
      refine tl_if_ne (tgt := 25) rfl rfl ⟨by omega, by omega⟩ (fun c2 => ?_) (fun c2 => ?_)
      · skip
        show jT _ _ 25 _ _ _ _
        refine tl_iload_n rfl rfl ?_
        refine tl_iload_n rfl rfl ?_
        refine tl_isub rfl ?_
        refine tl_iret rfl ?_
        -- leaf 1 at 28
        have e : tsz (h 390) p = k := tsz_u (by omega) hi (opn_f (by omega))
        rw [e] at hP
        rw [show p + (k : Int) - p = (k : Int) by omega]
        exact hP
      · show jT _ _ 19 _ _ _ _
        refine tl_iinc rfl rfl rfl ?_
        refine tl_goto (tgt := 2) rfl rfl ?_
        show jT _ _ 2 _ _ _ _
        -- leaf 2 at 2
        have := ih (k + 1) (by omega) (by omega) (fun i hi2 => by by_cases c : i = k; (subst c; exact opn_t' (by omega)); exact hi i (by omega))
        rw [show p + ((k + 1 : Nat) : Int) = p + (k : Int) + 1 by omega] at this
        exact this
set_option maxRecDepth 20000 in
set_option maxHeartbeats 1000000 in
theorem r_reachOf (l : Launch) (h : jH) (ok : Rok (h 390)) (p : Int) (p0 : 0 ≤ p) (p64 : p ≤ 64) : cI l 233 [.ref 388, .int (jI p)] h (fun z h' => h' = h ∧ z = (tsz (h 390) p : Int)) := by
  refine cI.of rfl rfl ?_
  refine tl_iload_n rfl rfl ?_
  refine tl_istore_n rfl (Nat.le_of_ble_eq_true rfl) rfl ?_
  show jT _ _ 2 _ _ _ _
  -- leaf 0 at 2
  refine jT.loc ?_ (r_reachOf_lp l h ok p p0 p64 _ ⟨_, rfl, rfl, rfl⟩ _ 0 (Nat.lt_succ_self _) (Nat.zero_le _) (fun i hi => by omega))
  rw [show p + ((0 : Nat) : Int) = p by omega]
  rfl
set_option maxRecDepth 20000 in
set_option maxHeartbeats 1000000 in
theorem r_common_lp (l : Launch) (h : jH) (ok : Rok (h 390)) (p q : Int) (p0 : 0 ≤ p) (p64 : p ≤ 64) (q0 : 0 ≤ q) (q64 : q ≤ 64) (P : Option Value → jH → Prop) (hP : P (some (.int (jI (com (h 390) p q : Int)))) h) : ∀ (m k : Nat), 64 - k < m → k ≤ tsz (h 390) p → k ≤ tsz (h 390) q → (∀ i : Nat, i < k → cmP (h 390) p q i = true) → jT l 234 3 [some (.ref 388), some (.int (jI p)), some (.int (jI (tsz (h 390) p : Int))), some (.int (jI q)), some (.int (jI (tsz (h 390) q : Int))), some (.int (jI (k : Int)))] [] h P := by
  have ok9 := ok
  obtain ⟨k1, k2, k3, k4, k5, k6, k7⟩ := ok9
  have tp := tsz_s ok p0
  have tq := tsz_s ok q0
  obtain ⟨tp1, tp2, tp3⟩ := tp
  obtain ⟨tq1, tq2, tq3⟩ := tq
  intro m
  induction m with
  | zero => intro k hk; omega
  | succ m ih =>
    intro k hk hkp hkq hi
    refine tl_iload rfl rfl ?_
    refine tl_iload_n rfl rfl ?_
    refine tl_icmp_ge (tgt := 43) rfl rfl ⟨by omega, by omega⟩ ⟨by omega, by omega⟩ (fun c1 => ?_) (fun c1 => ?_)
    · skip
      refine tl_iload rfl rfl ?_
      refine tl_iret rfl ?_
      -- leaf 0 at 45
      have e : com (h 390) p q = k := com_u (by omega) hi (by first | exact cmP_f3 (by rw [← p3, ← p4]; assumption) | exact cmP_f1 (by rw [show k = tsz (h 390) p by omega]; exact tp3) | exact cmP_f2 (by rw [show k = tsz (h 390) q by omega]; exact tq3))
      rw [e] at hP
      exact hP
    · show jT _ _ 9 _ _ _ _
      have o1 := opn_t (tp2 k (by omega))
      refine tl_iload rfl rfl ?_
      show jT _ _ 11 _ _ _ _
      refine tl_iload rfl rfl ?_
      refine tl_icmp_ge (tgt := 43) rfl rfl ⟨by omega, by omega⟩ ⟨by omega, by omega⟩ (fun c2 => ?_) (fun c2 => ?_)
      · skip
        refine tl_iload rfl rfl ?_
        refine tl_iret rfl ?_
        -- leaf 1 at 45
        have e : com (h 390) p q = k := com_u (by omega) hi (by first | exact cmP_f3 (by rw [← p3, ← p4]; assumption) | exact cmP_f1 (by rw [show k = tsz (h 390) p by omega]; exact tp3) | exact cmP_f2 (by rw [show k = tsz (h 390) q by omega]; exact tq3))
        rw [e] at hP
        exact hP
      · show jT _ _ 16 _ _ _ _
        have o2 := opn_t (tq2 k (by omega))
        refine tl_aload_n rfl rfl ?_
        refine tl_iconst rfl ?_
        refine tl_iload_n rfl rfl ?_
        show jT _ _ 19 _ _ _ _
        refine tl_iload rfl rfl ?_
        refine tl_iadd rfl ?_
        refine tl_v2i (c9 := 12) (c_at l _ 0 (p + (k : Int)) (by decide) (by decide) (by omega) (by omega)) rfl rfl rfl rfl rfl (Nat.le_of_ble_eq_true rfl) (fun z3 h3 p3 => ?_)
        obtain ⟨q3, p3⟩ := p3
        have q3 := q3.symm
        subst q3
        rw [show ((6 : Int) + 65 * 0 + (p + (k : Int))).toNat = 6 + (p + (k : Int)).toNat by omega] at p3
        have o3 := opn_t (tp2 k (by omega))
        have y3 := k5 (p + (k : Int)).toNat (by omega)
        have ya3 := y3.1
        have yb3 := y3.2
        refine tl_aload_n rfl rfl ?_
        refine tl_iconst rfl ?_
        refine tl_iload_n rfl rfl ?_
        refine tl_iload rfl rfl ?_
        show jT _ _ 30 _ _ _ _
        refine tl_iadd rfl ?_
        refine tl_v2i (c9 := 12) (c_at l _ 0 (q + (k : Int)) (by decide) (by decide) (by omega) (by omega)) rfl rfl rfl rfl rfl (Nat.le_of_ble_eq_true rfl) (fun z4 h4 p4 => ?_)
        obtain ⟨q4, p4⟩ := p4
        have q4 := q4.symm
        subst q4
        rw [show ((6 : Int) + 65 * 0 + (q + (k : Int))).toNat = 6 + (q + (k : Int)).toNat by omega] at p4
        have o4 := opn_t (tq2 k (by omega))
        have y4 := k5 (q + (k : Int)).toNat (by omega)
        have ya4 := y4.1
        have yb4 := y4.2
        refine tl_icmp_ne (tgt := 43) rfl rfl ⟨by omega, by omega⟩ ⟨by omega, by omega⟩ (fun c3 => ?_) (fun c3 => ?_)
        · skip
          refine tl_iload rfl rfl ?_
          refine tl_iret rfl ?_
          -- leaf 2 at 45
          have e : com (h 390) p q = k := com_u (by omega) hi (by first | exact cmP_f3 (by rw [← p3, ← p4]; assumption) | exact cmP_f1 (by rw [show k = tsz (h 390) p by omega]; exact tp3) | exact cmP_f2 (by rw [show k = tsz (h 390) q by omega]; exact tq3))
          rw [e] at hP
          exact hP
        · show jT _ _ 37 _ _ _ _
          refine tl_iinc rfl rfl rfl ?_
          refine tl_goto (tgt := 3) rfl rfl ?_
          show jT _ _ 3 _ _ _ _
          -- leaf 3 at 3
          exact ih (k + 1) (by omega) (by omega) (by omega) (fun i hi2 => by by_cases c : i = k; (subst c; exact cmP_t (tp2 _ (by omega)) (tq2 _ (by omega)) (by rw [← p3, ← p4]; omega)); exact hi i (by omega))
set_option maxRecDepth 20000 in
set_option maxHeartbeats 1000000 in
theorem r_common (l : Launch) (h : jH) (ok : Rok (h 390)) (p q : Int) (p0 : 0 ≤ p) (p64 : p ≤ 64) (q0 : 0 ≤ q) (q64 : q ≤ 64) : cI l 234 [.ref 388, .int (jI p), .int (jI (tsz (h 390) p : Int)), .int (jI q), .int (jI (tsz (h 390) q : Int))] h (fun z h' => h' = h ∧ z = (com (h 390) p q : Int)) := by
  refine cI.of rfl rfl ?_
  refine tl_iconst rfl ?_
  refine tl_istore rfl (Nat.le_of_ble_eq_true rfl) rfl ?_
  show jT _ _ 3 _ _ _ _
  -- leaf 0 at 3
  exact r_common_lp l h ok p q p0 p64 q0 q64 _ ⟨_, rfl, rfl, rfl⟩ _ 0 (Nat.lt_succ_self _) (Nat.zero_le _) (Nat.zero_le _) (fun i hi => by omega)
set_option maxRecDepth 20000 in
set_option maxHeartbeats 1000000 in
theorem r_isAhead (l : Launch) (h : jH) (ok : Rok (h 390)) (p q : Int) (p0 : 0 ≤ p) (p64 : p ≤ 64) (q0 : 0 ≤ q) (q64 : q ≤ 64) : cI l 235 [.ref 388, .int (jI p), .int (jI (tsz (h 390) p : Int)), .int (jI q), .int (jI (tsz (h 390) q : Int))] h (fun z h' => h' = h ∧ z = zb (ahd (h 390) p q)) := by
  have ok9 := ok
  obtain ⟨k1, k2, k3, k4, k5, k6, k7⟩ := ok9
  have tp := tsz_s ok p0
  have tq := tsz_s ok q0
  obtain ⟨tp1, tp2, tp3⟩ := tp
  obtain ⟨tq1, tq2, tq3⟩ := tq
  have cl := com_le ok p0 q0
  refine cI.ofZ rfl rfl ?_
  refine tl_aload_n rfl rfl ?_
  refine tl_iload_n rfl rfl ?_
  refine tl_iload_n rfl rfl ?_
  refine tl_iload_n rfl rfl ?_
  refine tl_iload rfl rfl ?_
  refine tl_v4i (c9 := 12) (r_common l h ok p q p0 p64 q0 q64) rfl rfl rfl rfl rfl (Nat.le_of_ble_eq_true rfl) (fun z9 h9 p9 => ?_)
  obtain ⟨q9, rfl⟩ := p9
  have q9 := q9.symm
  subst q9
  show jT _ _ 9 _ _ _ _
  refine tl_istore rfl (Nat.le_of_ble_eq_true rfl) rfl ?_
  refine tl_iload rfl rfl ?_
  refine tl_iload_n rfl rfl ?_
  refine tl_icmp_eq (tgt := 24) rfl rfl ⟨by omega, by omega⟩ ⟨by omega, by omega⟩ (fun c1 => ?_) (fun c1 => ?_)
  · skip
    refine tl_iload_n rfl rfl ?_
    refine tl_iload rfl rfl ?_
    refine tl_icmp_eq (tgt := 44) rfl rfl ⟨by omega, by omega⟩ ⟨by omega, by omega⟩ (fun c2 => ?_) (fun c2 => ?_)
    · skip
      show jT _ _ 44 _ _ _ _
      refine tl_iload_n rfl rfl ?_
      refine tl_iload_n rfl rfl ?_
      refine tl_icmp_ge (tgt := 53) rfl rfl ⟨by omega, by omega⟩ ⟨by omega, by omega⟩ (fun c3 => ?_) (fun c3 => ?_)
      · skip
        refine tl_iconst rfl ?_
        refine tl_goto (tgt := 83) rfl rfl ?_
        refine tl_iret rfl ?_
        -- leaf 0 at 83
        first
          | (exfalso; omega)
          | (refine ⟨_, rfl, by omega, rfl, ?_⟩
             rw [ahd_r ok p0 q0]
             repeat (first | rw [if_pos (by omega)] | rw [if_neg (by omega)]))
      · show jT _ _ 49 _ _ _ _
        refine tl_iconst rfl ?_
        show jT _ _ 50 _ _ _ _
        refine tl_goto (tgt := 83) rfl rfl ?_
        refine tl_iret rfl ?_
        -- leaf 1 at 83
        first
          | (exfalso; omega)
          | (refine ⟨_, rfl, by omega, rfl, ?_⟩
             rw [ahd_r ok p0 q0]
             repeat (first | rw [if_pos (by omega)] | rw [if_neg (by omega)]))
    · show jT _ _ 30 _ _ _ _
      refine tl_iload_n rfl rfl ?_
      refine tl_iload rfl rfl ?_
      refine tl_icmp_ge (tgt := 40) rfl rfl ⟨by omega, by omega⟩ ⟨by omega, by omega⟩ (fun c4 => ?_) (fun c4 => ?_)
      · skip
        refine tl_iconst rfl ?_
        refine tl_goto (tgt := 83) rfl rfl ?_
        show jT _ _ 83 _ _ _ _
        refine tl_iret rfl ?_
        -- leaf 2 at 83
        first
          | (exfalso; omega)
          | (refine ⟨_, rfl, by omega, rfl, ?_⟩
             rw [ahd_r ok p0 q0]
             repeat (first | rw [if_pos (by omega)] | rw [if_neg (by omega)]))
      · show jT _ _ 36 _ _ _ _
        refine tl_iconst rfl ?_
        refine tl_goto (tgt := 83) rfl rfl ?_
        refine tl_iret rfl ?_
        -- leaf 3 at 83
        first
          | (exfalso; omega)
          | (refine ⟨_, rfl, by omega, rfl, ?_⟩
             rw [ahd_r ok p0 q0]
             repeat (first | rw [if_pos (by omega)] | rw [if_neg (by omega)]))
  · show jT _ _ 17 _ _ _ _
    refine tl_iload rfl rfl ?_
    refine tl_iload rfl rfl ?_
    refine tl_icmp_ne (tgt := 57) rfl rfl ⟨by omega, by omega⟩ ⟨by omega, by omega⟩ (fun c5 => ?_) (fun c5 => ?_)
    · skip
      have o1 := opn_t (tp2 (com (h 390) p q) (by omega))
      have o2 := opn_t (tq2 (com (h 390) p q) (by omega))
      show jT _ _ 57 _ _ _ _
      refine tl_aload_n rfl rfl ?_
      refine tl_iconst rfl ?_
      refine tl_iload_n rfl rfl ?_
      refine tl_iload rfl rfl ?_
      refine tl_iadd rfl ?_
      refine tl_v2i (c9 := 12) (c_at l _ 0 (p + (com (h 390) p q : Int)) (by decide) (by decide) (by omega) (by omega)) rfl rfl rfl rfl rfl (Nat.le_of_ble_eq_true rfl) (fun z3 h3 p3 => ?_)
      obtain ⟨q3, p3⟩ := p3
      have q3 := q3.symm
      subst q3
      rw [show ((6 : Int) + 65 * 0 + (p + (com (h 390) p q : Int))).toNat = 6 + (p + (com (h 390) p q : Int)).toNat by omega] at p3
      have y3 := k5 (p + (com (h 390) p q : Int)).toNat (by omega)
      have ya3 := y3.1
      have yb3 := y3.2
      refine tl_aload_n rfl rfl ?_
      show jT _ _ 67 _ _ _ _
      refine tl_iconst rfl ?_
      refine tl_iload_n rfl rfl ?_
      refine tl_iload rfl rfl ?_
      refine tl_iadd rfl ?_
      refine tl_v2i (c9 := 12) (c_at l _ 0 (q + (com (h 390) p q : Int)) (by decide) (by decide) (by omega) (by omega)) rfl rfl rfl rfl rfl (Nat.le_of_ble_eq_true rfl) (fun z4 h4 p4 => ?_)
      obtain ⟨q4, p4⟩ := p4
      have q4 := q4.symm
      subst q4
      rw [show ((6 : Int) + 65 * 0 + (q + (com (h 390) p q : Int))).toNat = 6 + (q + (com (h 390) p q : Int)).toNat by omega] at p4
      have y4 := k5 (q + (com (h 390) p q : Int)).toNat (by omega)
      have ya4 := y4.1
      have yb4 := y4.2
      refine tl_icmp_ge (tgt := 82) rfl rfl ⟨by omega, by omega⟩ ⟨by omega, by omega⟩ (fun c6 => ?_) (fun c6 => ?_)
      · skip
        refine tl_iconst rfl ?_
        show jT _ _ 83 _ _ _ _
        refine tl_iret rfl ?_
        -- leaf 4 at 83
        first
          | (exfalso; omega)
          | (refine ⟨_, rfl, by omega, rfl, ?_⟩
             rw [ahd_r ok p0 q0]
             repeat (first | rw [if_pos (by omega)] | rw [if_neg (by omega)]))
      · show jT _ _ 78 _ _ _ _
        refine tl_iconst rfl ?_
        refine tl_goto (tgt := 83) rfl rfl ?_
        refine tl_iret rfl ?_
        -- leaf 5 at 83
        first
          | (exfalso; omega)
          | (refine ⟨_, rfl, by omega, rfl, ?_⟩
             rw [ahd_r ok p0 q0]
             repeat (first | rw [if_pos (by omega)] | rw [if_neg (by omega)]))
    · show jT _ _ 24 _ _ _ _
      refine tl_iload_n rfl rfl ?_
      refine tl_iload rfl rfl ?_
      refine tl_icmp_eq (tgt := 44) rfl rfl ⟨by omega, by omega⟩ ⟨by omega, by omega⟩ (fun c7 => ?_) (fun c7 => ?_)
      · skip
        show jT _ _ 44 _ _ _ _
        refine tl_iload_n rfl rfl ?_
        refine tl_iload_n rfl rfl ?_
        refine tl_icmp_ge (tgt := 53) rfl rfl ⟨by omega, by omega⟩ ⟨by omega, by omega⟩ (fun c8 => ?_) (fun c8 => ?_)
        · skip
          refine tl_iconst rfl ?_
          refine tl_goto (tgt := 83) rfl rfl ?_
          refine tl_iret rfl ?_
          -- leaf 6 at 83
          first
            | (exfalso; omega)
            | (refine ⟨_, rfl, by omega, rfl, ?_⟩
               rw [ahd_r ok p0 q0]
               repeat (first | rw [if_pos (by omega)] | rw [if_neg (by omega)]))
        · show jT _ _ 49 _ _ _ _
          refine tl_iconst rfl ?_
          show jT _ _ 50 _ _ _ _
          refine tl_goto (tgt := 83) rfl rfl ?_
          refine tl_iret rfl ?_
          -- leaf 7 at 83
          first
            | (exfalso; omega)
            | (refine ⟨_, rfl, by omega, rfl, ?_⟩
               rw [ahd_r ok p0 q0]
               repeat (first | rw [if_pos (by omega)] | rw [if_neg (by omega)]))
      · show jT _ _ 30 _ _ _ _
        refine tl_iload_n rfl rfl ?_
        refine tl_iload rfl rfl ?_
        refine tl_icmp_ge (tgt := 40) rfl rfl ⟨by omega, by omega⟩ ⟨by omega, by omega⟩ (fun c9 => ?_) (fun c9 => ?_)
        · skip
          refine tl_iconst rfl ?_
          refine tl_goto (tgt := 83) rfl rfl ?_
          show jT _ _ 83 _ _ _ _
          refine tl_iret rfl ?_
          -- leaf 8 at 83
          first
            | (exfalso; omega)
            | (refine ⟨_, rfl, by omega, rfl, ?_⟩
               rw [ahd_r ok p0 q0]
               repeat (first | rw [if_pos (by omega)] | rw [if_neg (by omega)]))
        · show jT _ _ 36 _ _ _ _
          refine tl_iconst rfl ?_
          refine tl_goto (tgt := 83) rfl rfl ?_
          refine tl_iret rfl ?_
          -- leaf 9 at 83
          first
            | (exfalso; omega)
            | (refine ⟨_, rfl, by omega, rfl, ?_⟩
               rw [ahd_r ok p0 q0]
               repeat (first | rw [if_pos (by omega)] | rw [if_neg (by omega)]))
set_option maxRecDepth 20000 in
set_option maxHeartbeats 1000000 in
theorem r_layT_in (l : Launch) (mem0 : jH) (R : Nat → Int) (hR : mem0 390 = R) (ok : Rok R) (P n : Nat) (hP : (P : Int) < R 5) (ho : opn R P = true) (hT : TS R P (mem0 396) n) (hL : ∀ i, i < n → mem0 397 i = (tsz R (mem0 396 i) : Int)) (Q : Option Value → jH → Prop) (hx : ∀ (k : Nat) (mem : jH), k ≤ n → (∀ i, i < k → ahd R (mem0 396 i) P = true) → ((∀ i, i < k → mem 396 i = mem0 396 i ∧ mem 397 i = mem0 397 i) ∧ (∀ i, k < i → i ≤ n → mem 396 i = mem0 396 (i - 1) ∧ mem 397 i = mem0 397 (i - 1)) ∧ (∀ i, k ≤ i → i < n → ahd R P (mem0 396 i) = true) ∧ ∀ x, x ≠ 396 → x ≠ 397 → mem x = mem0 x) → jT l 236 94 [some (.ref 388), some (.int (jI (P : Int))), some (.int (jI (tsz R P : Int))), some (.int (jI (k : Int)))] [] mem Q) : ∀ (m k : Nat) (mem : jH), k < m → k ≤ n → ((∀ i, i < k → mem 396 i = mem0 396 i ∧ mem 397 i = mem0 397 i) ∧ (∀ i, k < i → i ≤ n → mem 396 i = mem0 396 (i - 1) ∧ mem 397 i = mem0 397 (i - 1)) ∧ (∀ i, k ≤ i → i < n → ahd R P (mem0 396 i) = true) ∧ ∀ x, x ≠ 396 → x ≠ 397 → mem x = mem0 x) → jT l 236 31 [some (.ref 388), some (.int (jI (P : Int))), some (.int (jI (tsz R P : Int))), some (.int (jI (k : Int)))] [] mem Q := by
  have ok9 := ok
  obtain ⟨k1, k2, k3, k4, k5, k6, k7⟩ := ok9
  have hn := hT.cnt ok
  have pr := hT.pre ok P (by omega) (by omega)
  intro m
  induction m with
  | zero => intro k mem hk; omega
  | succ m ih =>
    intro k mem hk hkn hi
    have hi9 := hi
    obtain ⟨i1, i2, i3, i4⟩ := hi
    have e390 : mem 390 = R := by rw [i4 390 (by decide) (by decide)]; exact hR
    refine tl_iload_n rfl rfl ?_
    refine tl_if_le (tgt := 94) rfl rfl ⟨by omega, by omega⟩ (fun c1 => ?_) (fun c1 => ?_)
    · skip
      show jT _ _ 94 _ _ _ _
      -- leaf 0 at 94
      first
        | (have e : k = 0 := by omega
           subst e
           exact hx 0 mem (by omega) (fun i hi => by omega) hi9)
        | exact hx k mem hkn (fun i hi => pr.1 i (k - 1) (by omega) (by omega) (ahd_to ok (by omega) pm.1 (by have := (hT.1 (k - 1) (by omega)).2; omega) e1)) hi9
    · show jT _ _ 35 _ _ _ _
      refine tl_aload_n rfl rfl ?_
      refine tl_iload_n rfl rfl ?_
      refine tl_iload_n rfl rfl ?_
      refine tl_aload_n rfl rfl ?_
      show jT _ _ 39 _ _ _ _
      refine tl_getr (c := 12) (k9 := 11) (b := 396) rfl rfl rfl rfl ?_
      refine tl_iload_n rfl rfl ?_
      refine tl_iconst rfl ?_
      refine tl_isub rfl ?_
      refine tl_iald (n := 64) rfl rfl rfl (by omega) (by omega) ?_
      rw [show ((k : Int) - 1).toNat = k - 1 by omega, (i1 (k - 1) (by omega)).1]
      have pm := hT.pos (i := k - 1) (by omega)
      refine tl_aload_n rfl rfl ?_
      refine tl_getr (c := 12) (k9 := 12) (b := 397) rfl rfl rfl rfl ?_
      show jT _ _ 50 _ _ _ _
      refine tl_iload_n rfl rfl ?_
      refine tl_iconst rfl ?_
      refine tl_isub rfl ?_
      refine tl_iald (n := 64) rfl rfl rfl (by omega) (by omega) ?_
      rw [show ((k : Int) - 1).toNat = k - 1 by omega, (i1 (k - 1) (by omega)).2, hL (k - 1) (by omega), ← e390]
      refine tl_v4i (c9 := 12) (r_isAhead l mem (by rw [e390]; exact ok) (P : Int) (mem0 396 (k - 1)) (by omega) (by omega) pm.1 (by omega)) rfl rfl rfl rfl rfl (Nat.le_of_ble_eq_true rfl) (fun z1 h1 p1 => ?_)
      obtain ⟨q1, p1⟩ := p1
      have q1 := q1.symm
      subst q1
      rw [e390] at p1 ⊢
      subst p1
      have b1 := zb_b (ahd R P (mem0 396 (k - 1)))
      refine tl_if_eq (tgt := 94) rfl rfl ⟨by omega, by omega⟩ (fun c2 => ?_) (fun c2 => ?_)
      · skip
        have e1 := zb0 c2
        show jT _ _ 94 _ _ _ _
        -- leaf 1 at 94
        first
          | (have e : k = 0 := by omega
             subst e
             exact hx 0 mem (by omega) (fun i hi => by omega) hi9)
          | exact hx k mem hkn (fun i hi => pr.1 i (k - 1) (by omega) (by omega) (ahd_to ok (by omega) pm.1 (by have := (hT.1 (k - 1) (by omega)).2; omega) e1)) hi9
      · show jT _ _ 60 _ _ _ _
        have e1 := zb1' c2
        refine tl_aload_n rfl rfl ?_
        show jT _ _ 61 _ _ _ _
        refine tl_getr (c := 12) (k9 := 11) (b := 396) rfl rfl rfl rfl ?_
        refine tl_iload_n rfl rfl ?_
        refine tl_aload_n rfl rfl ?_
        refine tl_getr (c := 12) (k9 := 11) (b := 396) rfl rfl rfl rfl ?_
        refine tl_iload_n rfl rfl ?_
        refine tl_iconst rfl ?_
        refine tl_isub rfl ?_
        show jT _ _ 72 _ _ _ _
        refine tl_iald (n := 64) rfl rfl rfl (by omega) (by omega) ?_
        rw [show ((k : Int) - 1).toNat = k - 1 by omega, (i1 (k - 1) (by omega)).1]
        refine tl_iast (n := 64) rfl rfl rfl (by omega) (by omega) ?_
        refine tl_aload_n rfl rfl ?_
        refine tl_getr (c := 12) (k9 := 12) (b := 397) rfl rfl rfl rfl ?_
        refine tl_iload_n rfl rfl ?_
        refine tl_aload_n rfl rfl ?_
        refine tl_getr (c := 12) (k9 := 12) (b := 397) rfl rfl rfl rfl ?_
        show jT _ _ 83 _ _ _ _
        refine tl_iload_n rfl rfl ?_
        refine tl_iconst rfl ?_
        refine tl_isub rfl ?_
        refine tl_iald (n := 64) rfl rfl rfl (by omega) (by omega) ?_
        rw [show ((k : Int) - 1).toNat = k - 1 by omega, hs_o (show (397 : Nat) ≠ 396 by decide), (i1 (k - 1) (by omega)).2]
        refine tl_iast (n := 64) rfl rfl rfl (by omega) (by omega) ?_
        refine tl_iinc rfl rfl rfl ?_
        refine tl_goto (tgt := 31) rfl rfl ?_
        show jT _ _ 31 _ _ _ _
        -- leaf 2 at 31
        have := ih (k - 1) (hs (hs mem 396 (k : Int).toNat (mem0 396 (k - 1))) 397 (k : Int).toNat (mem0 397 (k - 1))) (by omega) (by omega) ⟨fun i hi => ?_, fun i hi1 hi2 => ?_, fun i hi1 hi2 => ?_, fun x x1 x2 => ?_⟩
        · rw [show ((k - 1 : Nat) : Int) = (k : Int) + -1 by omega] at this
          exact this
        · rw [hs_o (by decide), hs_k (by omega), hs_k (by omega), hs_o (by decide)]; exact i1 i (by omega)
        · by_cases c : i = k
          · subst c
            rw [hs_o (by decide), Int.toNat_natCast, hs_s, hs_s]; exact ⟨rfl, rfl⟩
          · rw [hs_o (by decide), hs_k (by omega), hs_k (by omega), hs_o (by decide)]; exact i2 i (by omega) hi2
        · by_cases c : i = k - 1
          · subst c; exact e1
          · exact i3 i (by omega) hi2
        · rw [hs_O x2, hs_O x1]; exact i4 x x1 x2
set_option maxRecDepth 20000 in
set_option maxHeartbeats 1000000 in
theorem r_layT_lp (l : Launch) (h : jH) (R : Nat → Int) (hR : h 390 = R) (ok : Rok R) (P : Option Value → jH → Prop) (hP : ∀ mem, ((∃ n : Nat, mem 388 13 = (n : Int) ∧ TS R (R 5).toNat (mem 396) n ∧ ∀ i, i < n → mem 397 i = (tsz R (mem 396 i) : Int)) ∧ (∀ x, x ≠ 388 → x ≠ 396 → x ≠ 397 → mem x = h x) ∧ ∀ q, q ≠ 13 → mem 388 q = h 388 q) → P none mem) : ∀ (m k : Nat) (mem : jH) (y y2 : Option Value), (y = none ∨ ∃ z, y = some (.int (jI z))) → (y2 = none ∨ ∃ z, y2 = some (.int (jI z))) → (R 5).toNat - k < m → k ≤ (R 5).toNat → ((∃ n : Nat, mem 388 13 = (n : Int) ∧ TS R k (mem 396) n ∧ ∀ i, i < n → mem 397 i = (tsz R (mem 396 i) : Int)) ∧ (∀ x, x ≠ 388 → x ≠ 396 → x ≠ 397 → mem x = h x) ∧ ∀ q, q ≠ 13 → mem 388 q = h 388 q) → jT l 236 7 [some (.ref 388), some (.int (jI (k : Int))), y, y2] [] mem P := by
  have ok9 := ok
  obtain ⟨k1, k2, k3, k4, k5, k6, k7⟩ := ok9
  intro m
  induction m with
  | zero => intro k mem y y2 hy hy2 hk; omega
  | succ m ih =>
    intro k mem y y2 hy hy2 hk hkK hi
    have hi9 := hi
    obtain ⟨⟨n, m1, hT, hL⟩, fr, fr2⟩ := hi
    have e390 : mem 390 = R := by rw [fr 390 (by decide) (by decide) (by decide)]; exact hR
    have hn := hT.cnt ok
    refine tl_iload_n rfl rfl ?_
    refine tl_aload_n rfl rfl ?_
    refine tl_iconst rfl ?_
    refine tl_v1i (c9 := 12) (c_sizeOf l _ 0 (by decide) (by decide)) rfl rfl rfl rfl rfl (Nat.le_of_ble_eq_true rfl) (fun z1 h1 p1 => ?_)
    obtain ⟨q1, rfl⟩ := p1
    have q1 := q1.symm
    subst q1
    rw [show (5 + 65 * 0 : Int).toNat = 5 from rfl]
    rw [e390]
    refine tl_icmp_ge (tgt := 124) rfl rfl ⟨by omega, by omega⟩ ⟨by omega, by omega⟩ (fun c1 => ?_) (fun c1 => ?_)
    · skip
      refine tl_ret rfl ?_
      -- leaf 0 at 124
      have e : k = (R 5).toNat := by omega
      rw [e] at hi9
      exact hP mem hi9
    · show jT _ _ 16 _ _ _ _
      show jT _ _ 16 _ _ _ _
      refine tl_aload_n rfl rfl ?_
      refine tl_iload_n rfl rfl ?_
      refine tl_v1i (c9 := 12) (r_reachOf l mem (by rw [e390]; exact ok) (k : Int) (by omega) (by omega)) rfl rfl rfl rfl rfl (Nat.le_of_ble_eq_true rfl) (fun z2 h2 p2 => ?_)
      obtain ⟨q2, p2⟩ := p2
      have q2 := q2.symm
      subst q2
      rw [e390] at p2
      subst p2
      have ts := tsz_s ok (p := (k : Int)) (by omega)
      have tsb := ts.1
      refine tl_istore_n rfl (Nat.le_of_ble_eq_true rfl) rfl ?_
      refine tl_iload_n rfl rfl ?_
      refine tl_if_le (tgt := 118) rfl rfl ⟨by omega, by omega⟩ (fun c2 => ?_) (fun c2 => ?_)
      · skip
        refine tl_iinc rfl rfl rfl ?_
        show jT _ _ 121 _ _ _ _
        refine tl_goto (tgt := 7) rfl rfl ?_
        show jT _ _ 7 _ _ _ _
        -- leaf 1 at 7
        have ez : tsz R k = 0 := by omega
        have ho : opn R k = false := by have := ts.2.2; rw [ez] at this; rwa [show (k : Int) + ((0 : Nat) : Int) = (k : Int) by omega] at this
        have := ih (k + 1) mem (some (.int (jI (tsz R k : Int)))) y2 (Or.inr ⟨_, rfl⟩) hy2 (by omega) (by omega) ⟨⟨n, m1, hT.skip ho, hL⟩, fr, fr2⟩
        exact this
      · show jT _ _ 26 _ _ _ _
        refine tl_aload_n rfl rfl ?_
        refine tl_geti (c := 12) (k9 := 13) rfl rfl rfl ?_
        rw [m1]
        refine tl_istore_n rfl (Nat.le_of_ble_eq_true rfl) rfl ?_
        show jT _ _ 31 _ _ _ _
        -- leaf 2 at 31
        have ho : opn R k = true := by have := ts.2.1 0 (by omega); rwa [show (k : Int) + ((0 : Nat) : Int) = (k : Int) by omega] at this
        refine r_layT_in l mem R e390 ok k n (by omega) ho hT hL _ (fun kk mem2 hk g1 jj => ?_) _ n mem (Nat.lt_succ_self _) (Nat.le_refl _) ⟨fun i hi => ⟨rfl, rfl⟩, fun i hi1 hi2 => by omega, fun i hi1 hi2 => by omega, fun x _ _ => rfl⟩
        obtain ⟨j1, j2, j3, j4⟩ := jj
        refine tl_aload_n rfl rfl ?_
        refine tl_getr (c := 12) (k9 := 11) (b := 396) rfl rfl rfl rfl ?_
        refine tl_iload_n rfl rfl ?_
        refine tl_iload_n rfl rfl ?_
        refine tl_iast (n := 64) rfl rfl rfl (by omega) (by omega) ?_
        refine tl_aload_n rfl rfl ?_
        show jT _ _ 102 _ _ _ _
        refine tl_getr (c := 12) (k9 := 12) (b := 397) rfl rfl rfl rfl ?_
        refine tl_iload_n rfl rfl ?_
        refine tl_iload_n rfl rfl ?_
        refine tl_iast (n := 64) rfl rfl rfl (by omega) (by omega) ?_
        refine tl_aload_n rfl rfl ?_
        refine tl_dup rfl rfl ?_
        refine tl_geti (c := 12) (k9 := 13) rfl rfl rfl ?_
        rw [hs_o (show (388 : Nat) ≠ 397 by decide), hs_o (show (388 : Nat) ≠ 396 by decide), j4 388 (by decide) (by decide), m1]
        show jT _ _ 113 _ _ _ _
        refine tl_iconst rfl ?_
        refine tl_iadd rfl ?_
        refine tl_puti (c := 12) (k9 := 13) rfl rfl rfl rfl ?_
        refine tl_iinc rfl rfl rfl ?_
        refine tl_goto (tgt := 7) rfl rfl ?_
        show jT _ _ 7 _ _ _ _
        -- leaf 0 at 7
        have := ih (k + 1) (hs (hs (hs mem2 396 (kk : Int).toNat (k : Int)) 397 (kk : Int).toNat (tsz R k : Int)) 388 13 ((n : Int) + 1)) (some (.int (jI (tsz R k : Int)))) (some (.int (jI (kk : Int)))) (Or.inr ⟨_, rfl⟩) (Or.inr ⟨_, rfl⟩) (by omega) (by omega) ⟨⟨n + 1, hs_s.trans (by omega), ?_, ?_⟩, fun x x1 x2 x3 => ?_, fun q hq => ?_⟩
        · rw [show ((k + 1 : Nat) : Int) = (k : Int) + 1 by omega] at this
          exact this
        · refine (hT.ins ok ho hk g1 j3).congr (fun i hi => ?_)
          rw [hs_o (by decide), hs_o (by decide), insA, Int.toNat_natCast]
          rcases Nat.lt_trichotomy i kk with c | c | c
          · rw [hs_k (by omega), if_pos c]; exact (j1 i c).1
          · subst c; rw [hs_s, if_neg (by omega), if_pos rfl]
          · rw [hs_k (by omega), if_neg (by omega), if_neg (by omega)]; exact (j2 i c (by omega)).1
        · intro i hi
          have a6 : (hs (hs (hs mem2 396 (kk : Int).toNat (k : Int)) 397 (kk : Int).toNat (tsz R k : Int)) 388 13 ((n : Int) + 1)) 396 i = hs mem2 396 kk (k : Int) 396 i := by rw [hs_o (show (396 : Nat) ≠ 388 by decide), hs_o (show (396 : Nat) ≠ 397 by decide), Int.toNat_natCast]
          have a7 : (hs (hs (hs mem2 396 (kk : Int).toNat (k : Int)) 397 (kk : Int).toNat (tsz R k : Int)) 388 13 ((n : Int) + 1)) 397 i = hs mem2 397 kk (tsz R k : Int) 397 i := by rw [hs_o (show (397 : Nat) ≠ 388 by decide), Int.toNat_natCast]; by_cases c : i = kk; (rw [c, hs_s, hs_s]); (rw [hs_k c, hs_k c, hs_o (show (397 : Nat) ≠ 396 by decide)])
          rw [a6, a7]
          rcases Nat.lt_trichotomy i kk with c | c | c
          · rw [hs_k (by omega), hs_k (by omega), (j1 i c).1, (j1 i c).2]; exact hL i (by omega)
          · subst c; rw [hs_s, hs_s]
          · rw [hs_k (by omega), hs_k (by omega), (j2 i c (by omega)).1, (j2 i c (by omega)).2]; exact hL (i - 1) (by omega)
        · rw [hs_O x1, hs_O x3, hs_O x2, j4 x x2 x3]; exact fr x x1 x2 x3
        · rw [hs_k hq, hs_o (by decide), hs_o (by decide), j4 388 (by decide) (by decide)]; exact fr2 q hq
set_option maxRecDepth 20000 in
set_option maxHeartbeats 1000000 in
theorem r_layTails (l : Launch) (h : jH) (ok : Rok (h 390)) : cV l 236 [.ref 388] h (fun h' => ((∃ n : Nat, h' 388 13 = (n : Int) ∧ TS (h 390) 64 (h' 396) n ∧ ∀ i, i < n → h' 397 i = (tsz (h 390) (h' 396 i) : Int)) ∧ (∀ x, x ≠ 388 → x ≠ 396 → x ≠ 397 → h' x = h x) ∧ ∀ q, q ≠ 13 → h' 388 q = h 388 q)) := by
  have ok9 := ok
  obtain ⟨k1, k2, k3, k4, k5, k6, k7⟩ := ok9
  refine cV.of rfl rfl ?_
  refine tl_aload_n rfl rfl ?_
  refine tl_iconst rfl ?_
  refine tl_puti (c := 12) (k9 := 13) rfl rfl rfl rfl ?_
  refine tl_iconst rfl ?_
  refine tl_istore_n rfl (Nat.le_of_ble_eq_true rfl) rfl ?_
  show jT _ _ 7 _ _ _ _
  -- leaf 0 at 7
  refine r_layT_lp l h (h 390) rfl ok _ (fun mem hi => ⟨rfl, ?_⟩) _ 0 _ none none (Or.inl rfl) (Or.inl rfl) (Nat.lt_succ_self _) (Nat.zero_le _) ⟨⟨0, hs_s, TS.none, fun i hi => by omega⟩, fun x x1 x2 x3 => hs_O x1, fun q hq => hs_k hq⟩
  obtain ⟨⟨n, m1, hT, hL⟩, fr⟩ := hi
  exact ⟨⟨n, m1, hT.up (by omega) (by omega), hL⟩, fr⟩
/-- what layTails leaves -/
def TSr (R : Nat → Int) (h : jH) (n : Nat) : Prop := h 390 = R ∧ h 388 13 = (n : Int) ∧ TS R 64 (h 396) n ∧ ∀ i, i < n → h 397 i = (tsz R (h 396 i) : Int)
set_option maxRecDepth 20000 in
set_option maxHeartbeats 1000000 in
theorem r_commonAt (l : Launch) (h : jH) (R : Nat → Int) (ok : Rok R) (n : Nat) (hT : TSr R h n) (k : Nat) (hk : k < n) : cI l 237 [.ref 388, .int (jI (k : Int))] h (fun z h' => h' = h ∧ z = (cmA R (h 396) k : Int)) := by
  have ok9 := ok
  obtain ⟨k1, k2, k3, k4, k5, k6, k7⟩ := ok9
  obtain ⟨e390, m1, hS, hL⟩ := hT
  have hn := hS.cnt ok
  refine cI.of rfl rfl ?_
  refine tl_iload_n rfl rfl ?_
  refine tl_if_ne (tgt := 8) rfl rfl ⟨by omega, by omega⟩ (fun c1 => ?_) (fun c1 => ?_)
  · skip
    refine tl_aload_n rfl rfl ?_
    refine tl_aload_n rfl rfl ?_
    refine tl_getr (c := 12) (k9 := 11) (b := 396) rfl rfl rfl rfl ?_
    refine tl_iload_n rfl rfl ?_
    show jT _ _ 14 _ _ _ _
    refine tl_iald (n := 64) rfl rfl rfl (by omega) (by omega) ?_
    rw [Int.toNat_natCast]
    have x1 := hS.pos (i := k) (by omega)
    refine tl_aload_n rfl rfl ?_
    refine tl_getr (c := 12) (k9 := 12) (b := 397) rfl rfl rfl rfl ?_
    refine tl_iload_n rfl rfl ?_
    refine tl_iald (n := 64) rfl rfl rfl (by omega) (by omega) ?_
    rw [Int.toNat_natCast, hL k (by omega)]
    refine tl_aload_n rfl rfl ?_
    refine tl_getr (c := 12) (k9 := 11) (b := 396) rfl rfl rfl rfl ?_
    show jT _ _ 25 _ _ _ _
    refine tl_iload_n rfl rfl ?_
    refine tl_iconst rfl ?_
    refine tl_isub rfl ?_
    refine tl_iald (n := 64) rfl rfl rfl (by omega) (by omega) ?_
    rw [show ((k : Int) - 1).toNat = k - 1 by omega]
    have x2 := hS.pos (i := k - 1) (by omega)
    refine tl_aload_n rfl rfl ?_
    refine tl_getr (c := 12) (k9 := 12) (b := 397) rfl rfl rfl rfl ?_
    refine tl_iload_n rfl rfl ?_
    show jT _ _ 34 _ _ _ _
    refine tl_iconst rfl ?_
    refine tl_isub rfl ?_
    refine tl_iald (n := 64) rfl rfl rfl (by omega) (by omega) ?_
    rw [show ((k : Int) - 1).toNat = k - 1 by omega, hL (k - 1) (by omega), ← e390]
    refine tl_v4i (c9 := 12) (r_common l h (by rw [e390]; exact ok) (h 396 k) (h 396 (k - 1)) (by omega) (by omega) (by omega) (by omega)) rfl rfl rfl rfl rfl (Nat.le_of_ble_eq_true rfl) (fun z1 h1 p1 => ?_)
    obtain ⟨q1, p1⟩ := p1
    have q1 := q1.symm
    subst q1
    rw [e390] at p1 ⊢
    subst p1
    refine tl_iret rfl ?_
    -- leaf 0 at 40
    refine ⟨_, rfl, rfl, ?_⟩
    rw [cmA]
    first | (rw [if_pos (by omega)]; rfl) | (rw [if_neg (by omega), com_comm])
  · show jT _ _ 4 _ _ _ _
    refine tl_iconst rfl ?_
    refine tl_goto (tgt := 40) rfl rfl ?_
    show jT _ _ 40 _ _ _ _
    refine tl_iret rfl ?_
    -- leaf 1 at 40
    refine ⟨_, rfl, rfl, ?_⟩
    rw [cmA]
    first | (rw [if_pos (by omega)]; rfl) | (rw [if_neg (by omega), com_comm])
