/-! alikeOnes of the reference -/
set_option maxRecDepth 20000 in
set_option maxHeartbeats 1000000 in
theorem r_alike_lp (l : Launch) (g h : jH) (t : Int) (hI : IC g h t) (P : Option Value → jH → Prop) (hP : P (some (.int (jI (alk (fun i => h 390 (71 + i)) (fun i => h 390 (6 + i)) (min (h 390 70) (h 390 5)).toNat)))) h) : ∀ (m k : Nat), (min (h 390 70) (h 390 5)).toNat - k < m → k ≤ (min (h 390 70) (h 390 5)).toNat → jT l 353 4 [some (.ref 388), some (.int (jI (alk (fun i => h 390 (71 + i)) (fun i => h 390 (6 + i)) k))), some (.int (jI (k : Int)))] [] h P := by
  have hF : RSf g 4 (h 390) 70 := hI.1.1 1 (by decide)
  obtain ⟨a1, a2, a3, a4⟩ := hF
  have hG : RSf g 2 (h 390) 5 := hI.1.1 0 (by decide)
  obtain ⟨b1, b2, b3, b4⟩ := hG
  intro m
  induction m with
  | zero => intro k hk; omega
  | succ m ih =>
    intro k hk hkK
    refine tl_iload_n rfl rfl ?_
    refine tl_aload_n rfl rfl ?_
    refine tl_iconst rfl ?_
    refine tl_v1i (c9 := 12) (c_sizeOf l _ 1 (by decide) (by decide)) rfl rfl rfl rfl rfl (Nat.le_of_ble_eq_true rfl) (fun z1 h1 p1 => ?_)
    obtain ⟨q1, rfl⟩ := p1
    have q1 := q1.symm
    subst q1
    rw [show (5 + 65 * 1 : Int).toNat = 70 from rfl]
    refine tl_icmp_ge (tgt := 51) rfl rfl ⟨by omega, by omega⟩ ⟨by omega, by omega⟩ (fun c1 => ?_) (fun c1 => ?_)
    · skip
      refine tl_iload_n rfl rfl ?_
      show jT _ _ 52 _ _ _ _
      refine tl_iret rfl ?_
      -- leaf 0 at 52
      have e : k = (min (h 390 70) (h 390 5)).toNat := by omega
      rw [e]
      exact hP
    · show jT _ _ 13 _ _ _ _
      refine tl_iload_n rfl rfl ?_
      refine tl_aload_n rfl rfl ?_
      refine tl_iconst rfl ?_
      refine tl_v1i (c9 := 12) (c_sizeOf l _ 0 (by decide) (by decide)) rfl rfl rfl rfl rfl (Nat.le_of_ble_eq_true rfl) (fun z2 h2 p2 => ?_)
      obtain ⟨q2, rfl⟩ := p2
      have q2 := q2.symm
      subst q2
      rw [show (5 + 65 * 0 : Int).toNat = 5 from rfl]
      refine tl_icmp_ge (tgt := 51) rfl rfl ⟨by omega, by omega⟩ ⟨by omega, by omega⟩ (fun c2 => ?_) (fun c2 => ?_)
      · skip
        refine tl_iload_n rfl rfl ?_
        show jT _ _ 52 _ _ _ _
        refine tl_iret rfl ?_
        -- leaf 1 at 52
        have e : k = (min (h 390 70) (h 390 5)).toNat := by omega
        rw [e]
        exact hP
      · show jT _ _ 22 _ _ _ _
        refine tl_iload_n rfl rfl ?_
        refine tl_aload_n rfl rfl ?_
        refine tl_iconst rfl ?_
        refine tl_iload_n rfl rfl ?_
        refine tl_v2i (c9 := 12) (c_at l _ 1 (k : Int) (by decide) (by decide) (by omega) (by omega)) rfl rfl rfl rfl rfl (Nat.le_of_ble_eq_true rfl) (fun z3 h3 p3 => ?_)
        obtain ⟨q3, rfl⟩ := p3
        have q3 := q3.symm
        subst q3
        rw [show ((6 : Int) + 65 * 1 + (k : Int)).toNat = 71 + k by omega]
        have y1 := (a4 k (by omega)).2.1
        have y2 := (a4 k (by omega)).2.2
        rw [show 70 + 1 + k = 71 + k by omega] at y1 y2
        refine tl_aload_n rfl rfl ?_
        show jT _ _ 30 _ _ _ _
        refine tl_iconst rfl ?_
        refine tl_iload_n rfl rfl ?_
        refine tl_v2i (c9 := 12) (c_at l _ 0 (k : Int) (by decide) (by decide) (by omega) (by omega)) rfl rfl rfl rfl rfl (Nat.le_of_ble_eq_true rfl) (fun z4 h4 p4 => ?_)
        obtain ⟨q4, rfl⟩ := p4
        have q4 := q4.symm
        subst q4
        rw [show ((6 : Int) + 65 * 0 + (k : Int)).toNat = 6 + k by omega]
        have y3 := (b4 k (by omega)).2.1
        have y4 := (b4 k (by omega)).2.2
        rw [show 5 + 1 + k = 6 + k by omega] at y3 y4
        refine tl_icmp_ne (tgt := 42) rfl rfl ⟨by omega, by omega⟩ ⟨by omega, by omega⟩ (fun c3 => ?_) (fun c3 => ?_)
        · skip
          refine tl_iconst rfl ?_
          refine tl_iadd rfl ?_
          refine tl_istore_n rfl (Nat.le_of_ble_eq_true rfl) rfl ?_
          show jT _ _ 45 _ _ _ _
          refine tl_iinc rfl rfl rfl ?_
          refine tl_goto (tgt := 4) rfl rfl ?_
          show jT _ _ 4 _ _ _ _
          -- leaf 2 at 4
          first
            | (have e : alk (fun i => h 390 (71 + i)) (fun i => h 390 (6 + i)) (k + 1) = alk (fun i => h 390 (71 + i)) (fun i => h 390 (6 + i)) k + 0 := by rw [alk, if_neg (by omega)]
               have := ih (k + 1) (by omega) (by omega)
               rw [e] at this
               exact this)
            | (have e : alk (fun i => h 390 (71 + i)) (fun i => h 390 (6 + i)) (k + 1) = alk (fun i => h 390 (71 + i)) (fun i => h 390 (6 + i)) k + 1 := by rw [alk, if_pos (by omega)]
               have := ih (k + 1) (by omega) (by omega)
               rw [e] at this
               exact this)
        · show jT _ _ 38 _ _ _ _
          refine tl_iconst rfl ?_
          refine tl_goto (tgt := 43) rfl rfl ?_
          refine tl_iadd rfl ?_
          refine tl_istore_n rfl (Nat.le_of_ble_eq_true rfl) rfl ?_
          refine tl_iinc rfl rfl rfl ?_
          show jT _ _ 48 _ _ _ _
          refine tl_goto (tgt := 4) rfl rfl ?_
          show jT _ _ 4 _ _ _ _
          -- leaf 3 at 4
          first
            | (have e : alk (fun i => h 390 (71 + i)) (fun i => h 390 (6 + i)) (k + 1) = alk (fun i => h 390 (71 + i)) (fun i => h 390 (6 + i)) k + 0 := by rw [alk, if_neg (by omega)]
               have := ih (k + 1) (by omega) (by omega)
               rw [e] at this
               exact this)
            | (have e : alk (fun i => h 390 (71 + i)) (fun i => h 390 (6 + i)) (k + 1) = alk (fun i => h 390 (71 + i)) (fun i => h 390 (6 + i)) k + 1 := by rw [alk, if_pos (by omega)]
               have := ih (k + 1) (by omega) (by omega)
               rw [e] at this
               exact this)
set_option maxRecDepth 20000 in
set_option maxHeartbeats 1000000 in
theorem r_alike (l : Launch) (g h : jH) (t : Int) (hI : IC g h t) : cI l 353 [.ref 388] h (fun z h' => h' = h ∧ z = alk (fun i => h 390 (71 + i)) (fun i => h 390 (6 + i)) (min (h 390 70) (h 390 5)).toNat) := by
  refine cI.of rfl rfl ?_
  refine tl_iconst rfl ?_
  refine tl_istore_n rfl (Nat.le_of_ble_eq_true rfl) rfl ?_
  refine tl_iconst rfl ?_
  refine tl_istore_n rfl (Nat.le_of_ble_eq_true rfl) rfl ?_
  show jT _ _ 4 _ _ _ _
  -- leaf 0 at 4
  exact r_alike_lp l g h t hI _ ⟨_, rfl, rfl, rfl⟩ _ 0 (Nat.lt_succ_self _) (Nat.zero_le _)
