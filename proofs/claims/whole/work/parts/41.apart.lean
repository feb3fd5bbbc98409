/-! apart -/
def neq (R : Nat → Int) (p k : Nat) : Int := if R (6 + p) = R (71 + k) then 0 else 1
def edN (R g : Nat → Int) (i : Nat) : Nat → Int
  | 0 => (i : Int) + 1
  | j + 1 => min (g j + neq R i j) (min (g (j + 1)) (edN R g i j) + 1)
def ed (R : Nat → Int) : Nat → Nat → Int
  | 0 => fun j => (j : Int)
  | i + 1 => edN R (ed R i) i
theorem ed_s {R : Nat → Int} {p k : Nat} : ed R (p + 1) (k + 1) = min (ed R p k + neq R p k) (min (ed R p (k + 1)) (ed R (p + 1) k) + 1) := rfl
theorem ed_0 {R : Nat → Int} {p : Nat} : ed R p 0 = (p : Int) := by
  cases p with
  | zero => rfl
  | succ p => show (p : Int) + 1 = _; omega
theorem ed_z {R : Nat → Int} {k : Nat} : ed R 0 k = (k : Int) := rfl
theorem neq_b {R : Nat → Int} {p k : Nat} : 0 ≤ neq R p k ∧ neq R p k ≤ 1 := by rw [neq]; split <;> omega
theorem ed_b {R : Nat → Int} : ∀ p k : Nat, 0 ≤ ed R p k ∧ ed R p k ≤ (p : Int) + k := by
  intro p
  induction p with
  | zero => intro k; rw [ed_z]; omega
  | succ p ih =>
    intro k
    induction k with
    | zero => rw [ed_0]; omega
    | succ k ih2 =>
      have a := ih k
      have b := ih (k + 1)
      have c := neq_b (R := R) (p := p) (k := k)
      rw [ed_s]; omega
def Ap (R : Nat → Int) : Int := ed R (R 5).toNat (R 70).toNat
def Dapart (s : jH) : Int × jH := (Ap (s 390), s)
theorem Ag.apart {s s' : jH} (h : Ag s s') : AgD (Dapart s) (Dapart s') := AgD.rd h (by rw [h 390 (by decide)])
set_option maxRecDepth 20000 in
set_option maxHeartbeats 1000000 in
theorem k_dist_A (l : Launch) (h : jH) (R : Nat → Int) (hR : RS h 1 R) (P : Option Value → jH → Prop) (hx : ∀ mem, ((∀ p : Nat, p ≤ (R 5).toNat → mem 378 p = ed R p 0) ∧ ∀ x, x ≠ 378 → mem x = h x) → jT l 60 34 [some (.ref 377), some (.ref 2), some (.ref 4), some (.int (jI ((((R 5).toNat : Nat) : Int)))), some (.int (jI ((((R 5).toNat : Nat) : Int) + 1))), none, none, none] [] mem P) : ∀ (m : Nat) (k : Nat) (mem : jH), (R 5).toNat + 1 - k < m → (k ≤ (R 5).toNat + 1 ∧ (∀ p : Nat, p < k → mem 378 p = ed R p 0) ∧ ∀ x, x ≠ 378 → mem x = h x) → jT l 60 13 [some (.ref 377), some (.ref 2), some (.ref 4), some (.int (jI ((((R 5).toNat : Nat) : Int)))), some (.int (jI ((k : Int)))), none, none, none] [] mem P := by
  have ok := hR.ok
  obtain ⟨k1, k2, k3, k4, k5, k6, k7⟩ := ok
  intro m
  induction m with
  | zero => intro k mem hk; omega
  | succ m ih =>
    intro k mem hk hi
    obtain ⟨i0, i1, fr⟩ := hi
    refine tl_iload rfl rfl ?_
    refine tl_iload_n rfl rfl ?_
    refine tl_icmp_gt (tgt := 34) rfl rfl ⟨by omega, by omega⟩ ⟨by omega, by omega⟩ (fun c1 => ?_) (fun c1 => ?_)
    · skip
      show jT _ _ 34 _ _ _ _
      -- leaf 0 at 34
      have e : (k : Int) = (((R 5).toNat : Nat) : Int) + 1 := by omega
      rw [e]
      exact hx mem ⟨fun p hp => i1 p (by omega), fr⟩
    · show jT _ _ 19 _ _ _ _
      refine tl_aload_n rfl rfl ?_
      refine tl_getr (c := 5) (k9 := 3) (b := 378) rfl rfl rfl rfl ?_
      refine tl_iload rfl rfl ?_
      show jT _ _ 25 _ _ _ _
      refine tl_iload rfl rfl ?_
      refine tl_iast (n := 100) rfl rfl rfl (by omega) (by omega) ?_
      refine tl_iinc rfl rfl rfl ?_
      refine tl_goto (tgt := 13) rfl rfl ?_
      show jT _ _ 13 _ _ _ _
      -- leaf 1 at 13
      refine ih (k + 1) _ (by omega) ⟨by omega, fun p hp => ?_, fun x hx => ?_⟩
      · rw [Int.toNat_natCast, ed_0]
        by_cases c : p = k
        · subst c; rw [hs_s]
        · rw [hs_k c, ← ed_0 (R := R)]; exact i1 p (by omega)
      · rw [hs_O hx]; exact fr x hx
set_option maxRecDepth 20000 in
set_option maxHeartbeats 1000000 in
theorem k_dist_C (l : Launch) (h : jH) (R : Nat → Int) (hR : RS h 1 R) (k : Nat) (hk7 : (k : Int) < R 70) (P : Option Value → jH → Prop) (hx : ∀ mem y5 y6 y7, ((∀ q : Nat, q ≤ (R 5).toNat → mem 378 q = ed R q (k + 1)) ∧ ∀ x, x ≠ 378 → mem x = h x) → jT l 60 143 [some (.ref 377), some (.ref 2), some (.ref 4), some (.int (jI ((((R 5).toNat : Nat) : Int)))), some (.int (jI ((k : Int)))), y5, y6, y7] [] mem P) : ∀ (m : Nat) (p : Nat) (mem : jH) (y7 : Option Value), (R 5).toNat - p < m → (p ≤ (R 5).toNat ∧ (∀ q : Nat, q ≤ p → mem 378 q = ed R q (k + 1)) ∧ (∀ q : Nat, p < q → q ≤ (R 5).toNat → mem 378 q = ed R q k) ∧ ∀ x, x ≠ 378 → mem x = h x) → jT l 60 67 [some (.ref 377), some (.ref 2), some (.ref 4), some (.int (jI ((((R 5).toNat : Nat) : Int)))), some (.int (jI ((k : Int)))), some (.int (jI (ed R p k))), some (.int (jI ((p : Int)))), y7] [] mem P := by
  have ok := hR.ok
  obtain ⟨k1, k2, k3, k4, k5, k6, k7⟩ := ok
  intro m
  induction m with
  | zero => intro p mem y7 hk; omega
  | succ m ih =>
    intro p mem y7 hk hi
    obtain ⟨i0, i1, i2, fr⟩ := hi
    have hRm : RS mem 1 R := hR.of (fun x x1 x2 => fr x (by omega))
    have b1 := ed_b (R := R) p k
    have b2 := ed_b (R := R) (p + 1) k
    have b3 := ed_b (R := R) p (k + 1)
    have es := ed_s (R := R) (p := p) (k := k)
    refine tl_iload rfl rfl ?_
    refine tl_iload_n rfl rfl ?_
    refine tl_icmp_ge (tgt := 143) rfl rfl ⟨by omega, by omega⟩ ⟨by omega, by omega⟩ (fun c1 => ?_) (fun c1 => ?_)
    · skip
      show jT _ _ 143 _ _ _ _
      -- leaf 0 at 143
      have e : p = (R 5).toNat := by omega
      rw [e] at i1
      exact hx mem _ _ _ ⟨i1, fr⟩
    · show jT _ _ 73 _ _ _ _
      refine tl_iload rfl rfl ?_
      refine tl_aload_n rfl rfl ?_
      refine tl_iload rfl rfl ?_
      show jT _ _ 78 _ _ _ _
      refine tl_v1i (c9 := 8) (k_oget l mem R hRm ((p : Int)) ⟨by omega, by omega⟩) rfl rfl rfl rfl rfl (Nat.le_of_ble_eq_true rfl) (fun z1 h1 p1 => ?_)
      obtain ⟨q1, p1⟩ := p1
      have q1 := q1.symm
      subst q1
      rw [if_pos (by omega)] at p1
      have y1 := k5 ((p : Int)).toNat (by omega)
      have ya1 := y1.1
      have yb1 := y1.2
      refine tl_aload_n rfl rfl ?_
      refine tl_iload rfl rfl ?_
      refine tl_v1i (c9 := 8) (k_nget l mem R hRm ((k : Int)) ⟨by omega, by omega⟩) rfl rfl rfl rfl rfl (Nat.le_of_ble_eq_true rfl) (fun z2 h2 p2 => ?_)
      obtain ⟨q2, p2⟩ := p2
      have q2 := q2.symm
      subst q2
      rw [if_pos (by omega)] at p2
      have y2 := k6 ((k : Int)).toNat (by omega)
      have ya2 := y2.1
      have yb2 := y2.2
      refine tl_icmp_ne (tgt := 94) rfl rfl ⟨by omega, by omega⟩ ⟨by omega, by omega⟩ (fun c2 => ?_) (fun c2 => ?_)
      · skip
        refine tl_iconst rfl ?_
        refine tl_iadd rfl ?_
        show jT _ _ 96 _ _ _ _
        refine tl_istore rfl (Nat.le_of_ble_eq_true rfl) rfl ?_
        refine tl_aload_n rfl rfl ?_
        refine tl_getr (c := 5) (k9 := 3) (b := 378) rfl rfl rfl rfl ?_
        refine tl_iload rfl rfl ?_
        refine tl_iconst rfl ?_
        refine tl_iadd rfl ?_
        refine tl_iald (n := 100) rfl rfl rfl (by omega) (by omega) ?_
        rw [show ((p : Int) + 1).toNat = p + 1 by omega, i2 (p + 1) (by omega) (by omega)]
        show jT _ _ 107 _ _ _ _
        refine tl_istore rfl (Nat.le_of_ble_eq_true rfl) rfl ?_
        refine tl_aload_n rfl rfl ?_
        refine tl_getr (c := 5) (k9 := 3) (b := 378) rfl rfl rfl rfl ?_
        refine tl_iload rfl rfl ?_
        refine tl_iconst rfl ?_
        refine tl_iadd rfl ?_
        refine tl_iload rfl rfl ?_
        show jT _ _ 119 _ _ _ _
        refine tl_iload rfl rfl ?_
        refine tl_aload_n rfl rfl ?_
        refine tl_getr (c := 5) (k9 := 3) (b := 378) rfl rfl rfl rfl ?_
        refine tl_iload rfl rfl ?_
        refine tl_iald (n := 100) rfl rfl rfl (by omega) (by omega) ?_
        rw [Int.toNat_natCast, i1 p (by omega)]
        refine tl_s2i (c_min l mem _ _ ⟨by omega, by omega⟩ ⟨by omega, by omega⟩) rfl rfl rfl (Nat.le_of_ble_eq_true rfl) (fun z3 h3 p3 => ?_)
        obtain ⟨q3, rfl⟩ := p3
        have q3 := q3.symm
        subst q3
        refine tl_iconst rfl ?_
        show jT _ _ 132 _ _ _ _
        refine tl_iadd rfl ?_
        refine tl_s2i (c_min l mem _ _ ⟨by omega, by omega⟩ ⟨by omega, by omega⟩) rfl rfl rfl (Nat.le_of_ble_eq_true rfl) (fun z4 h4 p4 => ?_)
        obtain ⟨q4, rfl⟩ := p4
        have q4 := q4.symm
        subst q4
        refine tl_iast (n := 100) rfl rfl rfl (by omega) (by omega) ?_
        refine tl_iinc rfl rfl rfl ?_
        refine tl_goto (tgt := 67) rfl rfl ?_
        show jT _ _ 67 _ _ _ _
        -- leaf 1 at 67
        rw [Int.toNat_natCast] at p1 p2
        first
          | (have en : neq R p k = 0 := by rw [neq, if_pos (by omega)]
             rw [en] at es
             have := ih (p + 1) (hs mem 378 (p + 1) (min (ed R p k + 0) (min (ed R (p + 1) k) (ed R p (k + 1)) + 1))) (some (.int (jI (ed R p k + 0)))) (by omega) ⟨by omega, fun q hq => by by_cases c : q = p + 1; (subst c; rw [hs_s, es]; omega); (rw [hs_k c]; exact i1 q (by omega)), fun q q1 q2 => by rw [hs_k (by omega)]; exact i2 q (by omega) q2, fun x hx => by rw [hs_O hx]; exact fr x hx⟩
             rw [show ((p : Int) + 1).toNat = p + 1 by omega]
             exact this)
          | (have en : neq R p k = 1 := by rw [neq, if_neg (by omega)]
             rw [en] at es
             have := ih (p + 1) (hs mem 378 (p + 1) (min (ed R p k + 1) (min (ed R (p + 1) k) (ed R p (k + 1)) + 1))) (some (.int (jI (ed R p k + 1)))) (by omega) ⟨by omega, fun q hq => by by_cases c : q = p + 1; (subst c; rw [hs_s, es]; omega); (rw [hs_k c]; exact i1 q (by omega)), fun q q1 q2 => by rw [hs_k (by omega)]; exact i2 q (by omega) q2, fun x hx => by rw [hs_O hx]; exact fr x hx⟩
             rw [show ((p : Int) + 1).toNat = p + 1 by omega]
             exact this)
      · show jT _ _ 90 _ _ _ _
        refine tl_iconst rfl ?_
        refine tl_goto (tgt := 95) rfl rfl ?_
        show jT _ _ 95 _ _ _ _
        refine tl_iadd rfl ?_
        refine tl_istore rfl (Nat.le_of_ble_eq_true rfl) rfl ?_
        refine tl_aload_n rfl rfl ?_
        refine tl_getr (c := 5) (k9 := 3) (b := 378) rfl rfl rfl rfl ?_
        refine tl_iload rfl rfl ?_
        refine tl_iconst rfl ?_
        refine tl_iadd rfl ?_
        show jT _ _ 106 _ _ _ _
        refine tl_iald (n := 100) rfl rfl rfl (by omega) (by omega) ?_
        rw [show ((p : Int) + 1).toNat = p + 1 by omega, i2 (p + 1) (by omega) (by omega)]
        refine tl_istore rfl (Nat.le_of_ble_eq_true rfl) rfl ?_
        refine tl_aload_n rfl rfl ?_
        refine tl_getr (c := 5) (k9 := 3) (b := 378) rfl rfl rfl rfl ?_
        refine tl_iload rfl rfl ?_
        refine tl_iconst rfl ?_
        refine tl_iadd rfl ?_
        show jT _ _ 117 _ _ _ _
        refine tl_iload rfl rfl ?_
        refine tl_iload rfl rfl ?_
        refine tl_aload_n rfl rfl ?_
        refine tl_getr (c := 5) (k9 := 3) (b := 378) rfl rfl rfl rfl ?_
        refine tl_iload rfl rfl ?_
        refine tl_iald (n := 100) rfl rfl rfl (by omega) (by omega) ?_
        rw [Int.toNat_natCast, i1 p (by omega)]
        refine tl_s2i (c_min l mem _ _ ⟨by omega, by omega⟩ ⟨by omega, by omega⟩) rfl rfl rfl (Nat.le_of_ble_eq_true rfl) (fun z3 h3 p3 => ?_)
        obtain ⟨q3, rfl⟩ := p3
        have q3 := q3.symm
        subst q3
        show jT _ _ 131 _ _ _ _
        refine tl_iconst rfl ?_
        refine tl_iadd rfl ?_
        refine tl_s2i (c_min l mem _ _ ⟨by omega, by omega⟩ ⟨by omega, by omega⟩) rfl rfl rfl (Nat.le_of_ble_eq_true rfl) (fun z4 h4 p4 => ?_)
        obtain ⟨q4, rfl⟩ := p4
        have q4 := q4.symm
        subst q4
        refine tl_iast (n := 100) rfl rfl rfl (by omega) (by omega) ?_
        refine tl_iinc rfl rfl rfl ?_
        refine tl_goto (tgt := 67) rfl rfl ?_
        show jT _ _ 67 _ _ _ _
        -- leaf 2 at 67
        rw [Int.toNat_natCast] at p1 p2
        first
          | (have en : neq R p k = 0 := by rw [neq, if_pos (by omega)]
             rw [en] at es
             have := ih (p + 1) (hs mem 378 (p + 1) (min (ed R p k + 0) (min (ed R (p + 1) k) (ed R p (k + 1)) + 1))) (some (.int (jI (ed R p k + 0)))) (by omega) ⟨by omega, fun q hq => by by_cases c : q = p + 1; (subst c; rw [hs_s, es]; omega); (rw [hs_k c]; exact i1 q (by omega)), fun q q1 q2 => by rw [hs_k (by omega)]; exact i2 q (by omega) q2, fun x hx => by rw [hs_O hx]; exact fr x hx⟩
             rw [show ((p : Int) + 1).toNat = p + 1 by omega]
             exact this)
          | (have en : neq R p k = 1 := by rw [neq, if_neg (by omega)]
             rw [en] at es
             have := ih (p + 1) (hs mem 378 (p + 1) (min (ed R p k + 1) (min (ed R (p + 1) k) (ed R p (k + 1)) + 1))) (some (.int (jI (ed R p k + 1)))) (by omega) ⟨by omega, fun q hq => by by_cases c : q = p + 1; (subst c; rw [hs_s, es]; omega); (rw [hs_k c]; exact i1 q (by omega)), fun q q1 q2 => by rw [hs_k (by omega)]; exact i2 q (by omega) q2, fun x hx => by rw [hs_O hx]; exact fr x hx⟩
             rw [show ((p : Int) + 1).toNat = p + 1 by omega]
             exact this)
set_option maxRecDepth 20000 in
set_option maxHeartbeats 1000000 in
theorem k_dist_B (l : Launch) (h : jH) (R : Nat → Int) (hR : RS h 1 R) (P : Option Value → jH → Prop) (hP : ∀ mem, (∀ x, x ≠ 378 → mem x = h x) → P (some (.int (jI (Ap R)))) mem) : ∀ (m : Nat) (k : Nat) (mem : jH) (y5 : Option Value) (y6 : Option Value) (y7 : Option Value), (R 70).toNat - k < m → ((k : Int) ≤ R 70 ∧ (∀ q : Nat, q ≤ (R 5).toNat → mem 378 q = ed R q k) ∧ ∀ x, x ≠ 378 → mem x = h x) → jT l 60 37 [some (.ref 377), some (.ref 2), some (.ref 4), some (.int (jI ((((R 5).toNat : Nat) : Int)))), some (.int (jI ((k : Int)))), y5, y6, y7] [] mem P := by
  have ok := hR.ok
  obtain ⟨k1, k2, k3, k4, k5, k6, k7⟩ := ok
  intro m
  induction m with
  | zero => intro k mem y5 y6 y7 hk; omega
  | succ m ih =>
    intro k mem y5 y6 y7 hk hi
    obtain ⟨i0, i1, fr⟩ := hi
    have hRm : RS mem 1 R := hR.of (fun x x1 x2 => fr x (by omega))
    refine tl_iload rfl rfl ?_
    refine tl_aload_n rfl rfl ?_
    refine tl_geti (c := 8) (k9 := 1) rfl rfl rfl ?_
    rw [hRm.o70]
    refine tl_icmp_ge (tgt := 149) rfl rfl ⟨by omega, by omega⟩ ⟨by omega, by omega⟩ (fun c1 => ?_) (fun c1 => ?_)
    · skip
      refine tl_aload_n rfl rfl ?_
      refine tl_getr (c := 5) (k9 := 3) (b := 378) rfl rfl rfl rfl ?_
      show jT _ _ 153 _ _ _ _
      refine tl_iload_n rfl rfl ?_
      refine tl_iald (n := 100) rfl rfl rfl (by omega) (by omega) ?_
      rw [Int.toNat_natCast, i1 _ (by omega)]
      refine tl_iret rfl ?_
      -- leaf 0 at 155
      have e : k = (R 70).toNat := by omega
      rw [e]
      exact hP mem fr
    · show jT _ _ 46 _ _ _ _
      refine tl_aload_n rfl rfl ?_
      refine tl_getr (c := 5) (k9 := 3) (b := 378) rfl rfl rfl rfl ?_
      refine tl_iconst rfl ?_
      refine tl_iald (n := 100) rfl rfl rfl (by omega) (by omega) ?_
      rw [show Int.toNat 0 = 0 from rfl]
      rw [i1 0 (by omega)]
      show jT _ _ 52 _ _ _ _
      refine tl_istore rfl (Nat.le_of_ble_eq_true rfl) rfl ?_
      refine tl_aload_n rfl rfl ?_
      refine tl_getr (c := 5) (k9 := 3) (b := 378) rfl rfl rfl rfl ?_
      refine tl_iconst rfl ?_
      refine tl_iload rfl rfl ?_
      refine tl_iconst rfl ?_
      refine tl_iadd rfl ?_
      show jT _ _ 63 _ _ _ _
      refine tl_iast (n := 100) rfl rfl rfl (by omega) (by omega) ?_
      rw [show Int.toNat 0 = 0 from rfl]
      refine tl_iconst rfl ?_
      refine tl_istore rfl (Nat.le_of_ble_eq_true rfl) rfl ?_
      show jT _ _ 67 _ _ _ _
      -- leaf 1 at 67
      refine k_dist_C l h R hR k (by omega) P (fun mem2 y5 y6 y7 hj => ?_) _ 0 _ y7 (Nat.lt_succ_self _) ⟨Nat.zero_le _, fun q hq => ?_, fun q q1 q2 => ?_, fun x hx => ?_⟩
      · skip
        refine tl_iinc rfl rfl rfl ?_
        refine tl_goto (tgt := 37) rfl rfl ?_
        show jT _ _ 37 _ _ _ _
        -- leaf 0 at 37
        exact ih (k + 1) mem2 _ _ _ (by omega) ⟨by omega, hj.1, hj.2⟩
      · rw [show q = 0 by omega, hs_s, ed_z]; omega
      · rw [hs_k (by omega)]; exact i1 q q2
      · rw [hs_O hx]; exact fr x hx
set_option maxRecDepth 20000 in
set_option maxHeartbeats 1000000 in
theorem k_distance (l : Launch) (h : jH) (R : Nat → Int) (hR : RS h 1 R) : cI l 60 [.ref 377, .ref 2, .ref 4] h (fun z h' => z = Ap R ∧ ∀ x, x ≠ 378 → h' x = h x) := by
  have ok := hR.ok
  obtain ⟨k1, k2, k3, k4, k5, k6, k7⟩ := ok
  refine cI.of rfl rfl ?_
  refine tl_aload_n rfl rfl ?_
  refine tl_geti (c := 8) (k9 := 1) rfl rfl rfl ?_
  rw [hR.o5]
  refine tl_bipush rfl rfl ?_
  refine tl_s2i (c_min l h _ _ ⟨by omega, by omega⟩ ⟨by omega, by omega⟩) rfl rfl rfl (Nat.le_of_ble_eq_true rfl) (fun z1 h1 p1 => ?_)
  obtain ⟨q1, rfl⟩ := p1
  have q1 := q1.symm
  subst q1
  refine tl_istore_n rfl (Nat.le_of_ble_eq_true rfl) rfl ?_
  refine tl_iconst rfl ?_
  show jT _ _ 11 _ _ _ _
  refine tl_istore rfl (Nat.le_of_ble_eq_true rfl) rfl ?_
  show jT _ _ 13 _ _ _ _
  -- leaf 0 at 13
  rw [show min (R 5) 64 = (((R 5).toNat : Nat) : Int) by omega]
  refine k_dist_A l h R hR _ (fun mem hi => ?_) _ 0 h (Nat.lt_succ_self _) ⟨Nat.zero_le _, fun p hp => by omega, fun x _ => rfl⟩
  refine tl_iconst rfl ?_
  refine tl_istore rfl (Nat.le_of_ble_eq_true rfl) rfl ?_
  show jT _ _ 37 _ _ _ _
  -- leaf 0 at 37
  exact k_dist_B l h R hR _ (fun mem2 fr => ⟨_, rfl, rfl, fr⟩) _ 0 mem _ _ _ (Nat.lt_succ_self _) ⟨by omega, hi.1, hi.2⟩
set_option maxRecDepth 20000 in
set_option maxHeartbeats 1000000 in
theorem k_apart (l : Launch) (h s : jH) (t : Int) (hI : IC h s t) : cI l 179 [.ref 0] h (PK h t (Dapart s)) := by
  refine cI.of rfl rfl ?_
  refine tl_aload_n rfl rfl ?_
  refine tl_getr (c := 11) (k9 := 17) (b := 377) rfl rfl rfl rfl ?_
  refine tl_aload_n rfl rfl ?_
  refine tl_getr (c := 11) (k9 := 0) (b := 1) rfl rfl rfl rfl ?_
  refine tl_getr (c := 9) (k9 := 0) (b := 2) rfl rfl rfl rfl ?_
  refine tl_aload_n rfl rfl ?_
  show jT _ _ 12 _ _ _ _
  refine tl_getr (c := 11) (k9 := 0) (b := 1) rfl rfl rfl rfl ?_
  refine tl_getr (c := 9) (k9 := 1) (b := 4) rfl rfl rfl rfl ?_
  refine tl_v2i (c9 := 5) (k_distance l h (s 390) hI.1) rfl rfl rfl rfl rfl (Nat.le_of_ble_eq_true rfl) (fun z1 h1 p1 => ?_)
  obtain ⟨rfl, fr⟩ := p1
  refine tl_iret rfl ?_
  -- leaf 0 at 21
  exact ⟨_, rfl, PK.rd hI (KF.of (fun x hx => fr x (by omega)))⟩
set_option maxRecDepth 20000 in
set_option maxHeartbeats 1000000 in
theorem r_dist_A (l : Launch) (h : jH) (R : Nat → Int) (hR : h 390 = R) (ok : Rok R) (P : Option Value → jH → Prop) (hx : ∀ mem, ((∀ p : Nat, p ≤ (R 70).toNat → mem 431 p = ed R 0 p) ∧ ∀ x, x ≠ 431 → mem x = h x) → jT l 346 31 [some (.ref 388), some (.int (jI ((((R 70).toNat : Nat) : Int)))), some (.int (jI ((((R 70).toNat : Nat) : Int) + 1))), none, none, none] [] mem P) : ∀ (m : Nat) (k : Nat) (mem : jH), (R 70).toNat + 1 - k < m → (k ≤ (R 70).toNat + 1 ∧ (∀ p : Nat, p < k → mem 431 p = ed R 0 p) ∧ ∀ x, x ≠ 431 → mem x = h x) → jT l 346 13 [some (.ref 388), some (.int (jI ((((R 70).toNat : Nat) : Int)))), some (.int (jI ((k : Int)))), none, none, none] [] mem P := by
  have ok9 := ok
  obtain ⟨k1, k2, k3, k4, k5, k6, k7⟩ := ok9
  intro m
  induction m with
  | zero => intro k mem hk; omega
  | succ m ih =>
    intro k mem hk hi
    obtain ⟨i0, i1, fr⟩ := hi
    refine tl_iload_n rfl rfl ?_
    refine tl_iload_n rfl rfl ?_
    refine tl_icmp_gt (tgt := 31) rfl rfl ⟨by omega, by omega⟩ ⟨by omega, by omega⟩ (fun c1 => ?_) (fun c1 => ?_)
    · skip
      show jT _ _ 31 _ _ _ _
      -- leaf 0 at 31
      have e : (k : Int) = (((R 70).toNat : Nat) : Int) + 1 := by omega
      rw [e]
      exact hx mem ⟨fun p hp => i1 p (by omega), fr⟩
    · show jT _ _ 18 _ _ _ _
      refine tl_aload_n rfl rfl ?_
      refine tl_getr (c := 12) (k9 := 79) (b := 431) rfl rfl rfl rfl ?_
      refine tl_iload_n rfl rfl ?_
      show jT _ _ 23 _ _ _ _
      refine tl_iload_n rfl rfl ?_
      refine tl_iast (n := 65) rfl rfl rfl (by omega) (by omega) ?_
      refine tl_iinc rfl rfl rfl ?_
      refine tl_goto (tgt := 13) rfl rfl ?_
      show jT _ _ 13 _ _ _ _
      -- leaf 1 at 13
      refine ih (k + 1) _ (by omega) ⟨by omega, fun p hp => ?_, fun x hx => ?_⟩
      · rw [Int.toNat_natCast]
        by_cases c : p = k
        · subst c; rw [hs_s, ed_z]
        · rw [hs_k c]; exact i1 p (by omega)
      · rw [hs_O hx]; exact fr x hx
set_option maxRecDepth 20000 in
set_option maxHeartbeats 1000000 in
theorem r_dist_C (l : Launch) (h : jH) (R : Nat → Int) (hR : h 390 = R) (ok : Rok R) (k : Nat) (hk7 : (k : Int) < R 5) (P : Option Value → jH → Prop) (hx : ∀ mem y3 y4 y5, ((∀ q : Nat, q ≤ (R 70).toNat → mem 431 q = ed R (k + 1) q) ∧ ∀ x, x ≠ 431 → mem x = h x) → jT l 346 181 [some (.ref 388), some (.int (jI ((((R 70).toNat : Nat) : Int)))), some (.int (jI ((k : Int) + 1))), y3, y4, y5] [] mem P) : ∀ (m : Nat) (p : Nat) (mem : jH) (y5 : Option Value), (R 70).toNat - p < m → (p ≤ (R 70).toNat ∧ (∀ q : Nat, q ≤ p → mem 431 q = ed R (k + 1) q) ∧ (∀ q : Nat, p < q → q ≤ (R 70).toNat → mem 431 q = ed R k q) ∧ ∀ x, x ≠ 431 → mem x = h x) → jT l 346 59 [some (.ref 388), some (.int (jI ((((R 70).toNat : Nat) : Int)))), some (.int (jI ((k : Int) + 1))), some (.int (jI (ed R k p))), some (.int (jI ((p : Int) + 1))), y5] [] mem P := by
  have ok9 := ok
  obtain ⟨k1, k2, k3, k4, k5, k6, k7⟩ := ok9
  intro m
  induction m with
  | zero => intro p mem y5 hk; omega
  | succ m ih =>
    intro p mem y5 hk hi
    obtain ⟨i0, i1, i2, fr⟩ := hi
    have e390 : mem 390 = R := by rw [fr 390 (by decide)]; exact hR
    have b1 := ed_b (R := R) k p
    have b2 := ed_b (R := R) k (p + 1)
    have b3 := ed_b (R := R) (k + 1) p
    have es := ed_s (R := R) (p := k) (k := p)
    refine tl_iload rfl rfl ?_
    refine tl_iload_n rfl rfl ?_
    refine tl_icmp_gt (tgt := 181) rfl rfl ⟨by omega, by omega⟩ ⟨by omega, by omega⟩ (fun c1 => ?_) (fun c1 => ?_)
    · skip
      show jT _ _ 181 _ _ _ _
      -- leaf 0 at 181
      have e : p = (R 70).toNat := by omega
      rw [e] at i1
      exact hx mem _ _ _ ⟨i1, fr⟩
    · show jT _ _ 65 _ _ _ _
      refine tl_iload_n rfl rfl ?_
      refine tl_aload_n rfl rfl ?_
      refine tl_iconst rfl ?_
      show jT _ _ 68 _ _ _ _
      refine tl_iload_n rfl rfl ?_
      refine tl_iconst rfl ?_
      refine tl_isub rfl ?_
      refine tl_v2i (c9 := 12) (c_at l _ 0 ((k : Int) + 1 - 1) (by decide) (by decide) (by omega) (by omega)) rfl rfl rfl rfl rfl (Nat.le_of_ble_eq_true rfl) (fun z1 h1 p1 => ?_)
      obtain ⟨q1, p1⟩ := p1
      have q1 := q1.symm
      subst q1
      rw [show ((6 : Int) + 65 * 0 + ((k : Int) + 1 - 1)).toNat = 6 + ((k : Int) + 1 - 1).toNat by omega, e390] at p1
      rw [show ((k : Int) + 1 - 1).toNat = k by omega] at p1
      have y1 := k5 k (by omega)
      have ya1 := y1.1
      have yb1 := y1.2
      refine tl_aload_n rfl rfl ?_
      refine tl_iconst rfl ?_
      refine tl_iload rfl rfl ?_
      show jT _ _ 78 _ _ _ _
      refine tl_iconst rfl ?_
      refine tl_isub rfl ?_
      refine tl_v2i (c9 := 12) (c_at l _ 1 ((p : Int) + 1 - 1) (by decide) (by decide) (by omega) (by omega)) rfl rfl rfl rfl rfl (Nat.le_of_ble_eq_true rfl) (fun z2 h2 p2 => ?_)
      obtain ⟨q2, p2⟩ := p2
      have q2 := q2.symm
      subst q2
      rw [show ((6 : Int) + 65 * 1 + ((p : Int) + 1 - 1)).toNat = 71 + ((p : Int) + 1 - 1).toNat by omega, e390] at p2
      rw [show ((p : Int) + 1 - 1).toNat = p by omega] at p2
      have y2 := k6 p (by omega)
      have ya2 := y2.1
      have yb2 := y2.2
      refine tl_icmp_ne (tgt := 90) rfl rfl ⟨by omega, by omega⟩ ⟨by omega, by omega⟩ (fun c2 => ?_) (fun c2 => ?_)
      · skip
        refine tl_iconst rfl ?_
        refine tl_iadd rfl ?_
        refine tl_istore rfl (Nat.le_of_ble_eq_true rfl) rfl ?_
        show jT _ _ 94 _ _ _ _
        refine tl_aload_n rfl rfl ?_
        refine tl_getr (c := 12) (k9 := 79) (b := 431) rfl rfl rfl rfl ?_
        refine tl_iload rfl rfl ?_
        refine tl_iald (n := 65) rfl rfl rfl (by omega) (by omega) ?_
        rw [show ((p : Int) + 1).toNat = p + 1 by omega, i2 (p + 1) (by omega) (by omega)]
        refine tl_iconst rfl ?_
        refine tl_iadd rfl ?_
        refine tl_iload rfl rfl ?_
        show jT _ _ 105 _ _ _ _
        refine tl_icmp_ge (tgt := 120) rfl rfl ⟨by omega, by omega⟩ ⟨by omega, by omega⟩ (fun c3 => ?_) (fun c3 => ?_)
        · skip
          refine tl_iload rfl rfl ?_
          refine tl_istore rfl (Nat.le_of_ble_eq_true rfl) rfl ?_
          refine tl_aload_n rfl rfl ?_
          refine tl_getr (c := 12) (k9 := 79) (b := 431) rfl rfl rfl rfl ?_
          refine tl_iload rfl rfl ?_
          refine tl_iconst rfl ?_
          show jT _ _ 131 _ _ _ _
          refine tl_isub rfl ?_
          refine tl_iald (n := 65) rfl rfl rfl (by omega) (by omega) ?_
          rw [show ((p : Int) + 1 - 1).toNat = p by omega, i1 p (by omega)]
          refine tl_iconst rfl ?_
          refine tl_iadd rfl ?_
          refine tl_iload rfl rfl ?_
          refine tl_icmp_ge (tgt := 154) rfl rfl ⟨by omega, by omega⟩ ⟨by omega, by omega⟩ (fun c4 => ?_) (fun c4 => ?_)
          · skip
            refine tl_iload rfl rfl ?_
            show jT _ _ 156 _ _ _ _
            refine tl_istore rfl (Nat.le_of_ble_eq_true rfl) rfl ?_
            refine tl_aload_n rfl rfl ?_
            refine tl_getr (c := 12) (k9 := 79) (b := 431) rfl rfl rfl rfl ?_
            refine tl_iload rfl rfl ?_
            refine tl_iald (n := 65) rfl rfl rfl (by omega) (by omega) ?_
            rw [show ((p : Int) + 1).toNat = p + 1 by omega, i2 (p + 1) (by omega) (by omega)]
            refine tl_istore_n rfl (Nat.le_of_ble_eq_true rfl) rfl ?_
            refine tl_aload_n rfl rfl ?_
            show jT _ _ 167 _ _ _ _
            refine tl_getr (c := 12) (k9 := 79) (b := 431) rfl rfl rfl rfl ?_
            refine tl_iload rfl rfl ?_
            refine tl_iload rfl rfl ?_
            refine tl_iast (n := 65) rfl rfl rfl (by omega) (by omega) ?_
            refine tl_iinc rfl rfl rfl ?_
            refine tl_goto (tgt := 59) rfl rfl ?_
            show jT _ _ 59 _ _ _ _
            -- leaf 1 at 59
            first
              | (exfalso; omega)
              | (have en : neq R k p = 0 := by rw [neq, if_pos (by omega)]
                 rw [en] at es
                 have := ih (p + 1) (hs mem 431 (p + 1) (ed R k p + 0)) (some (.int (jI (ed R k p + 0)))) (by omega) ⟨by omega, fun q hq => by by_cases c : q = p + 1; (subst c; rw [hs_s, es]; omega); (rw [hs_k c]; exact i1 q (by omega)), fun q q1 q2 => by rw [hs_k (by omega)]; exact i2 q (by omega) q2, fun x hx => by rw [hs_O hx]; exact fr x hx⟩
                 rw [show (((p + 1 : Nat) : Int) + 1) = (p : Int) + 1 + 1 by omega] at this
                 rw [show ((p : Int) + 1).toNat = p + 1 by omega]
                 exact this)
              | (have en : neq R k p = 0 := by rw [neq, if_pos (by omega)]
                 rw [en] at es
                 have := ih (p + 1) (hs mem 431 (p + 1) (ed R k (p + 1) + 1)) (some (.int (jI (ed R k (p + 1) + 1)))) (by omega) ⟨by omega, fun q hq => by by_cases c : q = p + 1; (subst c; rw [hs_s, es]; omega); (rw [hs_k c]; exact i1 q (by omega)), fun q q1 q2 => by rw [hs_k (by omega)]; exact i2 q (by omega) q2, fun x hx => by rw [hs_O hx]; exact fr x hx⟩
                 rw [show (((p + 1 : Nat) : Int) + 1) = (p : Int) + 1 + 1 by omega] at this
                 rw [show ((p : Int) + 1).toNat = p + 1 by omega]
                 exact this)
              | (have en : neq R k p = 0 := by rw [neq, if_pos (by omega)]
                 rw [en] at es
                 have := ih (p + 1) (hs mem 431 (p + 1) (ed R (k + 1) p + 1)) (some (.int (jI (ed R (k + 1) p + 1)))) (by omega) ⟨by omega, fun q hq => by by_cases c : q = p + 1; (subst c; rw [hs_s, es]; omega); (rw [hs_k c]; exact i1 q (by omega)), fun q q1 q2 => by rw [hs_k (by omega)]; exact i2 q (by omega) q2, fun x hx => by rw [hs_O hx]; exact fr x hx⟩
                 rw [show (((p + 1 : Nat) : Int) + 1) = (p : Int) + 1 + 1 by omega] at this
                 rw [show ((p : Int) + 1).toNat = p + 1 by omega]
                 exact this)
              | (have en : neq R k p = 1 := by rw [neq, if_neg (by omega)]
                 rw [en] at es
                 have := ih (p + 1) (hs mem 431 (p + 1) (ed R k p + 1)) (some (.int (jI (ed R k p + 1)))) (by omega) ⟨by omega, fun q hq => by by_cases c : q = p + 1; (subst c; rw [hs_s, es]; omega); (rw [hs_k c]; exact i1 q (by omega)), fun q q1 q2 => by rw [hs_k (by omega)]; exact i2 q (by omega) q2, fun x hx => by rw [hs_O hx]; exact fr x hx⟩
                 rw [show (((p + 1 : Nat) : Int) + 1) = (p : Int) + 1 + 1 by omega] at this
                 rw [show ((p : Int) + 1).toNat = p + 1 by omega]
                 exact this)
              | (have en : neq R k p = 1 := by rw [neq, if_neg (by omega)]
                 rw [en] at es
                 have := ih (p + 1) (hs mem 431 (p + 1) (ed R k (p + 1) + 1)) (some (.int (jI (ed R k (p + 1) + 1)))) (by omega) ⟨by omega, fun q hq => by by_cases c : q = p + 1; (subst c; rw [hs_s, es]; omega); (rw [hs_k c]; exact i1 q (by omega)), fun q q1 q2 => by rw [hs_k (by omega)]; exact i2 q (by omega) q2, fun x hx => by rw [hs_O hx]; exact fr x hx⟩
                 rw [show (((p + 1 : Nat) : Int) + 1) = (p : Int) + 1 + 1 by omega] at this
                 rw [show ((p : Int) + 1).toNat = p + 1 by omega]
                 exact this)
              | (have en : neq R k p = 1 := by rw [neq, if_neg (by omega)]
                 rw [en] at es
                 have := ih (p + 1) (hs mem 431 (p + 1) (ed R (k + 1) p + 1)) (some (.int (jI (ed R (k + 1) p + 1)))) (by omega) ⟨by omega, fun q hq => by by_cases c : q = p + 1; (subst c; rw [hs_s, es]; omega); (rw [hs_k c]; exact i1 q (by omega)), fun q q1 q2 => by rw [hs_k (by omega)]; exact i2 q (by omega) q2, fun x hx => by rw [hs_O hx]; exact fr x hx⟩
                 rw [show (((p + 1 : Nat) : Int) + 1) = (p : Int) + 1 + 1 by omega] at this
                 rw [show ((p : Int) + 1).toNat = p + 1 by omega]
                 exact this)
          · show jT _ _ 140 _ _ _ _
            refine tl_aload_n rfl rfl ?_
            show jT _ _ 141 _ _ _ _
            refine tl_getr (c := 12) (k9 := 79) (b := 431) rfl rfl rfl rfl ?_
            refine tl_iload rfl rfl ?_
            refine tl_iconst rfl ?_
            refine tl_isub rfl ?_
            refine tl_iald (n := 65) rfl rfl rfl (by omega) (by omega) ?_
            rw [show ((p : Int) + 1 - 1).toNat = p by omega, i1 p (by omega)]
            refine tl_iconst rfl ?_
            refine tl_iadd rfl ?_
            show jT _ _ 151 _ _ _ _
            refine tl_goto (tgt := 156) rfl rfl ?_
            refine tl_istore rfl (Nat.le_of_ble_eq_true rfl) rfl ?_
            refine tl_aload_n rfl rfl ?_
            refine tl_getr (c := 12) (k9 := 79) (b := 431) rfl rfl rfl rfl ?_
            refine tl_iload rfl rfl ?_
            refine tl_iald (n := 65) rfl rfl rfl (by omega) (by omega) ?_
            rw [show ((p : Int) + 1).toNat = p + 1 by omega, i2 (p + 1) (by omega) (by omega)]
            refine tl_istore_n rfl (Nat.le_of_ble_eq_true rfl) rfl ?_
            show jT _ _ 166 _ _ _ _
            refine tl_aload_n rfl rfl ?_
            refine tl_getr (c := 12) (k9 := 79) (b := 431) rfl rfl rfl rfl ?_
            refine tl_iload rfl rfl ?_
            refine tl_iload rfl rfl ?_
            refine tl_iast (n := 65) rfl rfl rfl (by omega) (by omega) ?_
            refine tl_iinc rfl rfl rfl ?_
            refine tl_goto (tgt := 59) rfl rfl ?_
            show jT _ _ 59 _ _ _ _
            -- leaf 2 at 59
            first
              | (exfalso; omega)
              | (have en : neq R k p = 0 := by rw [neq, if_pos (by omega)]
                 rw [en] at es
                 have := ih (p + 1) (hs mem 431 (p + 1) (ed R k p + 0)) (some (.int (jI (ed R k p + 0)))) (by omega) ⟨by omega, fun q hq => by by_cases c : q = p + 1; (subst c; rw [hs_s, es]; omega); (rw [hs_k c]; exact i1 q (by omega)), fun q q1 q2 => by rw [hs_k (by omega)]; exact i2 q (by omega) q2, fun x hx => by rw [hs_O hx]; exact fr x hx⟩
                 rw [show (((p + 1 : Nat) : Int) + 1) = (p : Int) + 1 + 1 by omega] at this
                 rw [show ((p : Int) + 1).toNat = p + 1 by omega]
                 exact this)
              | (have en : neq R k p = 0 := by rw [neq, if_pos (by omega)]
                 rw [en] at es
                 have := ih (p + 1) (hs mem 431 (p + 1) (ed R k (p + 1) + 1)) (some (.int (jI (ed R k (p + 1) + 1)))) (by omega) ⟨by omega, fun q hq => by by_cases c : q = p + 1; (subst c; rw [hs_s, es]; omega); (rw [hs_k c]; exact i1 q (by omega)), fun q q1 q2 => by rw [hs_k (by omega)]; exact i2 q (by omega) q2, fun x hx => by rw [hs_O hx]; exact fr x hx⟩
                 rw [show (((p + 1 : Nat) : Int) + 1) = (p : Int) + 1 + 1 by omega] at this
                 rw [show ((p : Int) + 1).toNat = p + 1 by omega]
                 exact this)
              | (have en : neq R k p = 0 := by rw [neq, if_pos (by omega)]
                 rw [en] at es
                 have := ih (p + 1) (hs mem 431 (p + 1) (ed R (k + 1) p + 1)) (some (.int (jI (ed R (k + 1) p + 1)))) (by omega) ⟨by omega, fun q hq => by by_cases c : q = p + 1; (subst c; rw [hs_s, es]; omega); (rw [hs_k c]; exact i1 q (by omega)), fun q q1 q2 => by rw [hs_k (by omega)]; exact i2 q (by omega) q2, fun x hx => by rw [hs_O hx]; exact fr x hx⟩
                 rw [show (((p + 1 : Nat) : Int) + 1) = (p : Int) + 1 + 1 by omega] at this
                 rw [show ((p : Int) + 1).toNat = p + 1 by omega]
                 exact this)
              | (have en : neq R k p = 1 := by rw [neq, if_neg (by omega)]
                 rw [en] at es
                 have := ih (p + 1) (hs mem 431 (p + 1) (ed R k p + 1)) (some (.int (jI (ed R k p + 1)))) (by omega) ⟨by omega, fun q hq => by by_cases c : q = p + 1; (subst c; rw [hs_s, es]; omega); (rw [hs_k c]; exact i1 q (by omega)), fun q q1 q2 => by rw [hs_k (by omega)]; exact i2 q (by omega) q2, fun x hx => by rw [hs_O hx]; exact fr x hx⟩
                 rw [show (((p + 1 : Nat) : Int) + 1) = (p : Int) + 1 + 1 by omega] at this
                 rw [show ((p : Int) + 1).toNat = p + 1 by omega]
                 exact this)
              | (have en : neq R k p = 1 := by rw [neq, if_neg (by omega)]
                 rw [en] at es
                 have := ih (p + 1) (hs mem 431 (p + 1) (ed R k (p + 1) + 1)) (some (.int (jI (ed R k (p + 1) + 1)))) (by omega) ⟨by omega, fun q hq => by by_cases c : q = p + 1; (subst c; rw [hs_s, es]; omega); (rw [hs_k c]; exact i1 q (by omega)), fun q q1 q2 => by rw [hs_k (by omega)]; exact i2 q (by omega) q2, fun x hx => by rw [hs_O hx]; exact fr x hx⟩
                 rw [show (((p + 1 : Nat) : Int) + 1) = (p : Int) + 1 + 1 by omega] at this
                 rw [show ((p : Int) + 1).toNat = p + 1 by omega]
                 exact this)
              | (have en : neq R k p = 1 := by rw [neq, if_neg (by omega)]
                 rw [en] at es
                 have := ih (p + 1) (hs mem 431 (p + 1) (ed R (k + 1) p + 1)) (some (.int (jI (ed R (k + 1) p + 1)))) (by omega) ⟨by omega, fun q hq => by by_cases c : q = p + 1; (subst c; rw [hs_s, es]; omega); (rw [hs_k c]; exact i1 q (by omega)), fun q q1 q2 => by rw [hs_k (by omega)]; exact i2 q (by omega) q2, fun x hx => by rw [hs_O hx]; exact fr x hx⟩
                 rw [show (((p + 1 : Nat) : Int) + 1) = (p : Int) + 1 + 1 by omega] at this
                 rw [show ((p : Int) + 1).toNat = p + 1 by omega]
                 exact this)
        · show jT _ _ 108 _ _ _ _
          show jT _ _ 108 _ _ _ _
          refine tl_aload_n rfl rfl ?_
          refine tl_getr (c := 12) (k9 := 79) (b := 431) rfl rfl rfl rfl ?_
          refine tl_iload rfl rfl ?_
          refine tl_iald (n := 65) rfl rfl rfl (by omega) (by omega) ?_
          rw [show ((p : Int) + 1).toNat = p + 1 by omega, i2 (p + 1) (by omega) (by omega)]
          refine tl_iconst rfl ?_
          refine tl_iadd rfl ?_
          refine tl_goto (tgt := 122) rfl rfl ?_
          show jT _ _ 122 _ _ _ _
          refine tl_istore rfl (Nat.le_of_ble_eq_true rfl) rfl ?_
          refine tl_aload_n rfl rfl ?_
          refine tl_getr (c := 12) (k9 := 79) (b := 431) rfl rfl rfl rfl ?_
          refine tl_iload rfl rfl ?_
          refine tl_iconst rfl ?_
          refine tl_isub rfl ?_
          refine tl_iald (n := 65) rfl rfl rfl (by omega) (by omega) ?_
          rw [show ((p : Int) + 1 - 1).toNat = p by omega, i1 p (by omega)]
          show jT _ _ 133 _ _ _ _
          refine tl_iconst rfl ?_
          refine tl_iadd rfl ?_
          refine tl_iload rfl rfl ?_
          refine tl_icmp_ge (tgt := 154) rfl rfl ⟨by omega, by omega⟩ ⟨by omega, by omega⟩ (fun c5 => ?_) (fun c5 => ?_)
          · skip
            refine tl_iload rfl rfl ?_
            refine tl_istore rfl (Nat.le_of_ble_eq_true rfl) rfl ?_
            refine tl_aload_n rfl rfl ?_
            show jT _ _ 159 _ _ _ _
            refine tl_getr (c := 12) (k9 := 79) (b := 431) rfl rfl rfl rfl ?_
            refine tl_iload rfl rfl ?_
            refine tl_iald (n := 65) rfl rfl rfl (by omega) (by omega) ?_
            rw [show ((p : Int) + 1).toNat = p + 1 by omega, i2 (p + 1) (by omega) (by omega)]
            refine tl_istore_n rfl (Nat.le_of_ble_eq_true rfl) rfl ?_
            refine tl_aload_n rfl rfl ?_
            refine tl_getr (c := 12) (k9 := 79) (b := 431) rfl rfl rfl rfl ?_
            refine tl_iload rfl rfl ?_
            show jT _ _ 172 _ _ _ _
            refine tl_iload rfl rfl ?_
            refine tl_iast (n := 65) rfl rfl rfl (by omega) (by omega) ?_
            refine tl_iinc rfl rfl rfl ?_
            refine tl_goto (tgt := 59) rfl rfl ?_
            show jT _ _ 59 _ _ _ _
            -- leaf 3 at 59
            first
              | (exfalso; omega)
              | (have en : neq R k p = 0 := by rw [neq, if_pos (by omega)]
                 rw [en] at es
                 have := ih (p + 1) (hs mem 431 (p + 1) (ed R k p + 0)) (some (.int (jI (ed R k p + 0)))) (by omega) ⟨by omega, fun q hq => by by_cases c : q = p + 1; (subst c; rw [hs_s, es]; omega); (rw [hs_k c]; exact i1 q (by omega)), fun q q1 q2 => by rw [hs_k (by omega)]; exact i2 q (by omega) q2, fun x hx => by rw [hs_O hx]; exact fr x hx⟩
                 rw [show (((p + 1 : Nat) : Int) + 1) = (p : Int) + 1 + 1 by omega] at this
                 rw [show ((p : Int) + 1).toNat = p + 1 by omega]
                 exact this)
              | (have en : neq R k p = 0 := by rw [neq, if_pos (by omega)]
                 rw [en] at es
                 have := ih (p + 1) (hs mem 431 (p + 1) (ed R k (p + 1) + 1)) (some (.int (jI (ed R k (p + 1) + 1)))) (by omega) ⟨by omega, fun q hq => by by_cases c : q = p + 1; (subst c; rw [hs_s, es]; omega); (rw [hs_k c]; exact i1 q (by omega)), fun q q1 q2 => by rw [hs_k (by omega)]; exact i2 q (by omega) q2, fun x hx => by rw [hs_O hx]; exact fr x hx⟩
                 rw [show (((p + 1 : Nat) : Int) + 1) = (p : Int) + 1 + 1 by omega] at this
                 rw [show ((p : Int) + 1).toNat = p + 1 by omega]
                 exact this)
              | (have en : neq R k p = 0 := by rw [neq, if_pos (by omega)]
                 rw [en] at es
                 have := ih (p + 1) (hs mem 431 (p + 1) (ed R (k + 1) p + 1)) (some (.int (jI (ed R (k + 1) p + 1)))) (by omega) ⟨by omega, fun q hq => by by_cases c : q = p + 1; (subst c; rw [hs_s, es]; omega); (rw [hs_k c]; exact i1 q (by omega)), fun q q1 q2 => by rw [hs_k (by omega)]; exact i2 q (by omega) q2, fun x hx => by rw [hs_O hx]; exact fr x hx⟩
                 rw [show (((p + 1 : Nat) : Int) + 1) = (p : Int) + 1 + 1 by omega] at this
                 rw [show ((p : Int) + 1).toNat = p + 1 by omega]
                 exact this)
              | (have en : neq R k p = 1 := by rw [neq, if_neg (by omega)]
                 rw [en] at es
                 have := ih (p + 1) (hs mem 431 (p + 1) (ed R k p + 1)) (some (.int (jI (ed R k p + 1)))) (by omega) ⟨by omega, fun q hq => by by_cases c : q = p + 1; (subst c; rw [hs_s, es]; omega); (rw [hs_k c]; exact i1 q (by omega)), fun q q1 q2 => by rw [hs_k (by omega)]; exact i2 q (by omega) q2, fun x hx => by rw [hs_O hx]; exact fr x hx⟩
                 rw [show (((p + 1 : Nat) : Int) + 1) = (p : Int) + 1 + 1 by omega] at this
                 rw [show ((p : Int) + 1).toNat = p + 1 by omega]
                 exact this)
              | (have en : neq R k p = 1 := by rw [neq, if_neg (by omega)]
                 rw [en] at es
                 have := ih (p + 1) (hs mem 431 (p + 1) (ed R k (p + 1) + 1)) (some (.int (jI (ed R k (p + 1) + 1)))) (by omega) ⟨by omega, fun q hq => by by_cases c : q = p + 1; (subst c; rw [hs_s, es]; omega); (rw [hs_k c]; exact i1 q (by omega)), fun q q1 q2 => by rw [hs_k (by omega)]; exact i2 q (by omega) q2, fun x hx => by rw [hs_O hx]; exact fr x hx⟩
                 rw [show (((p + 1 : Nat) : Int) + 1) = (p : Int) + 1 + 1 by omega] at this
                 rw [show ((p : Int) + 1).toNat = p + 1 by omega]
                 exact this)
              | (have en : neq R k p = 1 := by rw [neq, if_neg (by omega)]
                 rw [en] at es
                 have := ih (p + 1) (hs mem 431 (p + 1) (ed R (k + 1) p + 1)) (some (.int (jI (ed R (k + 1) p + 1)))) (by omega) ⟨by omega, fun q hq => by by_cases c : q = p + 1; (subst c; rw [hs_s, es]; omega); (rw [hs_k c]; exact i1 q (by omega)), fun q q1 q2 => by rw [hs_k (by omega)]; exact i2 q (by omega) q2, fun x hx => by rw [hs_O hx]; exact fr x hx⟩
                 rw [show (((p + 1 : Nat) : Int) + 1) = (p : Int) + 1 + 1 by omega] at this
                 rw [show ((p : Int) + 1).toNat = p + 1 by omega]
                 exact this)
          · show jT _ _ 140 _ _ _ _
            refine tl_aload_n rfl rfl ?_
            refine tl_getr (c := 12) (k9 := 79) (b := 431) rfl rfl rfl rfl ?_
            refine tl_iload rfl rfl ?_
            show jT _ _ 146 _ _ _ _
            refine tl_iconst rfl ?_
            refine tl_isub rfl ?_
            refine tl_iald (n := 65) rfl rfl rfl (by omega) (by omega) ?_
            rw [show ((p : Int) + 1 - 1).toNat = p by omega, i1 p (by omega)]
            refine tl_iconst rfl ?_
            refine tl_iadd rfl ?_
            refine tl_goto (tgt := 156) rfl rfl ?_
            refine tl_istore rfl (Nat.le_of_ble_eq_true rfl) rfl ?_
            show jT _ _ 158 _ _ _ _
            refine tl_aload_n rfl rfl ?_
            refine tl_getr (c := 12) (k9 := 79) (b := 431) rfl rfl rfl rfl ?_
            refine tl_iload rfl rfl ?_
            refine tl_iald (n := 65) rfl rfl rfl (by omega) (by omega) ?_
            rw [show ((p : Int) + 1).toNat = p + 1 by omega, i2 (p + 1) (by omega) (by omega)]
            refine tl_istore_n rfl (Nat.le_of_ble_eq_true rfl) rfl ?_
            refine tl_aload_n rfl rfl ?_
            refine tl_getr (c := 12) (k9 := 79) (b := 431) rfl rfl rfl rfl ?_
            show jT _ _ 170 _ _ _ _
            refine tl_iload rfl rfl ?_
            refine tl_iload rfl rfl ?_
            refine tl_iast (n := 65) rfl rfl rfl (by omega) (by omega) ?_
            refine tl_iinc rfl rfl rfl ?_
            refine tl_goto (tgt := 59) rfl rfl ?_
            show jT _ _ 59 _ _ _ _
            -- leaf 4 at 59
            first
              | (exfalso; omega)
              | (have en : neq R k p = 0 := by rw [neq, if_pos (by omega)]
                 rw [en] at es
                 have := ih (p + 1) (hs mem 431 (p + 1) (ed R k p + 0)) (some (.int (jI (ed R k p + 0)))) (by omega) ⟨by omega, fun q hq => by by_cases c : q = p + 1; (subst c; rw [hs_s, es]; omega); (rw [hs_k c]; exact i1 q (by omega)), fun q q1 q2 => by rw [hs_k (by omega)]; exact i2 q (by omega) q2, fun x hx => by rw [hs_O hx]; exact fr x hx⟩
                 rw [show (((p + 1 : Nat) : Int) + 1) = (p : Int) + 1 + 1 by omega] at this
                 rw [show ((p : Int) + 1).toNat = p + 1 by omega]
                 exact this)
              | (have en : neq R k p = 0 := by rw [neq, if_pos (by omega)]
                 rw [en] at es
                 have := ih (p + 1) (hs mem 431 (p + 1) (ed R k (p + 1) + 1)) (some (.int (jI (ed R k (p + 1) + 1)))) (by omega) ⟨by omega, fun q hq => by by_cases c : q = p + 1; (subst c; rw [hs_s, es]; omega); (rw [hs_k c]; exact i1 q (by omega)), fun q q1 q2 => by rw [hs_k (by omega)]; exact i2 q (by omega) q2, fun x hx => by rw [hs_O hx]; exact fr x hx⟩
                 rw [show (((p + 1 : Nat) : Int) + 1) = (p : Int) + 1 + 1 by omega] at this
                 rw [show ((p : Int) + 1).toNat = p + 1 by omega]
                 exact this)
              | (have en : neq R k p = 0 := by rw [neq, if_pos (by omega)]
                 rw [en] at es
                 have := ih (p + 1) (hs mem 431 (p + 1) (ed R (k + 1) p + 1)) (some (.int (jI (ed R (k + 1) p + 1)))) (by omega) ⟨by omega, fun q hq => by by_cases c : q = p + 1; (subst c; rw [hs_s, es]; omega); (rw [hs_k c]; exact i1 q (by omega)), fun q q1 q2 => by rw [hs_k (by omega)]; exact i2 q (by omega) q2, fun x hx => by rw [hs_O hx]; exact fr x hx⟩
                 rw [show (((p + 1 : Nat) : Int) + 1) = (p : Int) + 1 + 1 by omega] at this
                 rw [show ((p : Int) + 1).toNat = p + 1 by omega]
                 exact this)
              | (have en : neq R k p = 1 := by rw [neq, if_neg (by omega)]
                 rw [en] at es
                 have := ih (p + 1) (hs mem 431 (p + 1) (ed R k p + 1)) (some (.int (jI (ed R k p + 1)))) (by omega) ⟨by omega, fun q hq => by by_cases c : q = p + 1; (subst c; rw [hs_s, es]; omega); (rw [hs_k c]; exact i1 q (by omega)), fun q q1 q2 => by rw [hs_k (by omega)]; exact i2 q (by omega) q2, fun x hx => by rw [hs_O hx]; exact fr x hx⟩
                 rw [show (((p + 1 : Nat) : Int) + 1) = (p : Int) + 1 + 1 by omega] at this
                 rw [show ((p : Int) + 1).toNat = p + 1 by omega]
                 exact this)
              | (have en : neq R k p = 1 := by rw [neq, if_neg (by omega)]
                 rw [en] at es
                 have := ih (p + 1) (hs mem 431 (p + 1) (ed R k (p + 1) + 1)) (some (.int (jI (ed R k (p + 1) + 1)))) (by omega) ⟨by omega, fun q hq => by by_cases c : q = p + 1; (subst c; rw [hs_s, es]; omega); (rw [hs_k c]; exact i1 q (by omega)), fun q q1 q2 => by rw [hs_k (by omega)]; exact i2 q (by omega) q2, fun x hx => by rw [hs_O hx]; exact fr x hx⟩
                 rw [show (((p + 1 : Nat) : Int) + 1) = (p : Int) + 1 + 1 by omega] at this
                 rw [show ((p : Int) + 1).toNat = p + 1 by omega]
                 exact this)
              | (have en : neq R k p = 1 := by rw [neq, if_neg (by omega)]
                 rw [en] at es
                 have := ih (p + 1) (hs mem 431 (p + 1) (ed R (k + 1) p + 1)) (some (.int (jI (ed R (k + 1) p + 1)))) (by omega) ⟨by omega, fun q hq => by by_cases c : q = p + 1; (subst c; rw [hs_s, es]; omega); (rw [hs_k c]; exact i1 q (by omega)), fun q q1 q2 => by rw [hs_k (by omega)]; exact i2 q (by omega) q2, fun x hx => by rw [hs_O hx]; exact fr x hx⟩
                 rw [show (((p + 1 : Nat) : Int) + 1) = (p : Int) + 1 + 1 by omega] at this
                 rw [show ((p : Int) + 1).toNat = p + 1 by omega]
                 exact this)
      · show jT _ _ 86 _ _ _ _
        refine tl_iconst rfl ?_
        refine tl_goto (tgt := 91) rfl rfl ?_
        show jT _ _ 91 _ _ _ _
        refine tl_iadd rfl ?_
        refine tl_istore rfl (Nat.le_of_ble_eq_true rfl) rfl ?_
        refine tl_aload_n rfl rfl ?_
        refine tl_getr (c := 12) (k9 := 79) (b := 431) rfl rfl rfl rfl ?_
        refine tl_iload rfl rfl ?_
        refine tl_iald (n := 65) rfl rfl rfl (by omega) (by omega) ?_
        rw [show ((p : Int) + 1).toNat = p + 1 by omega, i2 (p + 1) (by omega) (by omega)]
        refine tl_iconst rfl ?_
        show jT _ _ 102 _ _ _ _
        refine tl_iadd rfl ?_
        refine tl_iload rfl rfl ?_
        refine tl_icmp_ge (tgt := 120) rfl rfl ⟨by omega, by omega⟩ ⟨by omega, by omega⟩ (fun c6 => ?_) (fun c6 => ?_)
        · skip
          refine tl_iload rfl rfl ?_
          refine tl_istore rfl (Nat.le_of_ble_eq_true rfl) rfl ?_
          refine tl_aload_n rfl rfl ?_
          refine tl_getr (c := 12) (k9 := 79) (b := 431) rfl rfl rfl rfl ?_
          show jT _ _ 128 _ _ _ _
          refine tl_iload rfl rfl ?_
          refine tl_iconst rfl ?_
          refine tl_isub rfl ?_
          refine tl_iald (n := 65) rfl rfl rfl (by omega) (by omega) ?_
          rw [show ((p : Int) + 1 - 1).toNat = p by omega, i1 p (by omega)]
          refine tl_iconst rfl ?_
          refine tl_iadd rfl ?_
          refine tl_iload rfl rfl ?_
          show jT _ _ 137 _ _ _ _
          refine tl_icmp_ge (tgt := 154) rfl rfl ⟨by omega, by omega⟩ ⟨by omega, by omega⟩ (fun c7 => ?_) (fun c7 => ?_)
          · skip
            refine tl_iload rfl rfl ?_
            refine tl_istore rfl (Nat.le_of_ble_eq_true rfl) rfl ?_
            refine tl_aload_n rfl rfl ?_
            refine tl_getr (c := 12) (k9 := 79) (b := 431) rfl rfl rfl rfl ?_
            refine tl_iload rfl rfl ?_
            refine tl_iald (n := 65) rfl rfl rfl (by omega) (by omega) ?_
            rw [show ((p : Int) + 1).toNat = p + 1 by omega, i2 (p + 1) (by omega) (by omega)]
            show jT _ _ 165 _ _ _ _
            refine tl_istore_n rfl (Nat.le_of_ble_eq_true rfl) rfl ?_
            refine tl_aload_n rfl rfl ?_
            refine tl_getr (c := 12) (k9 := 79) (b := 431) rfl rfl rfl rfl ?_
            refine tl_iload rfl rfl ?_
            refine tl_iload rfl rfl ?_
            refine tl_iast (n := 65) rfl rfl rfl (by omega) (by omega) ?_
            refine tl_iinc rfl rfl rfl ?_
            show jT _ _ 178 _ _ _ _
            refine tl_goto (tgt := 59) rfl rfl ?_
            show jT _ _ 59 _ _ _ _
            -- leaf 5 at 59
            first
              | (exfalso; omega)
              | (have en : neq R k p = 0 := by rw [neq, if_pos (by omega)]
                 rw [en] at es
                 have := ih (p + 1) (hs mem 431 (p + 1) (ed R k p + 0)) (some (.int (jI (ed R k p + 0)))) (by omega) ⟨by omega, fun q hq => by by_cases c : q = p + 1; (subst c; rw [hs_s, es]; omega); (rw [hs_k c]; exact i1 q (by omega)), fun q q1 q2 => by rw [hs_k (by omega)]; exact i2 q (by omega) q2, fun x hx => by rw [hs_O hx]; exact fr x hx⟩
                 rw [show (((p + 1 : Nat) : Int) + 1) = (p : Int) + 1 + 1 by omega] at this
                 rw [show ((p : Int) + 1).toNat = p + 1 by omega]
                 exact this)
              | (have en : neq R k p = 0 := by rw [neq, if_pos (by omega)]
                 rw [en] at es
                 have := ih (p + 1) (hs mem 431 (p + 1) (ed R k (p + 1) + 1)) (some (.int (jI (ed R k (p + 1) + 1)))) (by omega) ⟨by omega, fun q hq => by by_cases c : q = p + 1; (subst c; rw [hs_s, es]; omega); (rw [hs_k c]; exact i1 q (by omega)), fun q q1 q2 => by rw [hs_k (by omega)]; exact i2 q (by omega) q2, fun x hx => by rw [hs_O hx]; exact fr x hx⟩
                 rw [show (((p + 1 : Nat) : Int) + 1) = (p : Int) + 1 + 1 by omega] at this
                 rw [show ((p : Int) + 1).toNat = p + 1 by omega]
                 exact this)
              | (have en : neq R k p = 0 := by rw [neq, if_pos (by omega)]
                 rw [en] at es
                 have := ih (p + 1) (hs mem 431 (p + 1) (ed R (k + 1) p + 1)) (some (.int (jI (ed R (k + 1) p + 1)))) (by omega) ⟨by omega, fun q hq => by by_cases c : q = p + 1; (subst c; rw [hs_s, es]; omega); (rw [hs_k c]; exact i1 q (by omega)), fun q q1 q2 => by rw [hs_k (by omega)]; exact i2 q (by omega) q2, fun x hx => by rw [hs_O hx]; exact fr x hx⟩
                 rw [show (((p + 1 : Nat) : Int) + 1) = (p : Int) + 1 + 1 by omega] at this
                 rw [show ((p : Int) + 1).toNat = p + 1 by omega]
                 exact this)
              | (have en : neq R k p = 1 := by rw [neq, if_neg (by omega)]
                 rw [en] at es
                 have := ih (p + 1) (hs mem 431 (p + 1) (ed R k p + 1)) (some (.int (jI (ed R k p + 1)))) (by omega) ⟨by omega, fun q hq => by by_cases c : q = p + 1; (subst c; rw [hs_s, es]; omega); (rw [hs_k c]; exact i1 q (by omega)), fun q q1 q2 => by rw [hs_k (by omega)]; exact i2 q (by omega) q2, fun x hx => by rw [hs_O hx]; exact fr x hx⟩
                 rw [show (((p + 1 : Nat) : Int) + 1) = (p : Int) + 1 + 1 by omega] at this
                 rw [show ((p : Int) + 1).toNat = p + 1 by omega]
                 exact this)
              | (have en : neq R k p = 1 := by rw [neq, if_neg (by omega)]
                 rw [en] at es
                 have := ih (p + 1) (hs mem 431 (p + 1) (ed R k (p + 1) + 1)) (some (.int (jI (ed R k (p + 1) + 1)))) (by omega) ⟨by omega, fun q hq => by by_cases c : q = p + 1; (subst c; rw [hs_s, es]; omega); (rw [hs_k c]; exact i1 q (by omega)), fun q q1 q2 => by rw [hs_k (by omega)]; exact i2 q (by omega) q2, fun x hx => by rw [hs_O hx]; exact fr x hx⟩
                 rw [show (((p + 1 : Nat) : Int) + 1) = (p : Int) + 1 + 1 by omega] at this
                 rw [show ((p : Int) + 1).toNat = p + 1 by omega]
                 exact this)
              | (have en : neq R k p = 1 := by rw [neq, if_neg (by omega)]
                 rw [en] at es
                 have := ih (p + 1) (hs mem 431 (p + 1) (ed R (k + 1) p + 1)) (some (.int (jI (ed R (k + 1) p + 1)))) (by omega) ⟨by omega, fun q hq => by by_cases c : q = p + 1; (subst c; rw [hs_s, es]; omega); (rw [hs_k c]; exact i1 q (by omega)), fun q q1 q2 => by rw [hs_k (by omega)]; exact i2 q (by omega) q2, fun x hx => by rw [hs_O hx]; exact fr x hx⟩
                 rw [show (((p + 1 : Nat) : Int) + 1) = (p : Int) + 1 + 1 by omega] at this
                 rw [show ((p : Int) + 1).toNat = p + 1 by omega]
                 exact this)
          · show jT _ _ 140 _ _ _ _
            refine tl_aload_n rfl rfl ?_
            refine tl_getr (c := 12) (k9 := 79) (b := 431) rfl rfl rfl rfl ?_
            refine tl_iload rfl rfl ?_
            refine tl_iconst rfl ?_
            refine tl_isub rfl ?_
            refine tl_iald (n := 65) rfl rfl rfl (by omega) (by omega) ?_
            rw [show ((p : Int) + 1 - 1).toNat = p by omega, i1 p (by omega)]
            show jT _ _ 149 _ _ _ _
            refine tl_iconst rfl ?_
            refine tl_iadd rfl ?_
            refine tl_goto (tgt := 156) rfl rfl ?_
            refine tl_istore rfl (Nat.le_of_ble_eq_true rfl) rfl ?_
            refine tl_aload_n rfl rfl ?_
            refine tl_getr (c := 12) (k9 := 79) (b := 431) rfl rfl rfl rfl ?_
            refine tl_iload rfl rfl ?_
            show jT _ _ 164 _ _ _ _
            refine tl_iald (n := 65) rfl rfl rfl (by omega) (by omega) ?_
            rw [show ((p : Int) + 1).toNat = p + 1 by omega, i2 (p + 1) (by omega) (by omega)]
            refine tl_istore_n rfl (Nat.le_of_ble_eq_true rfl) rfl ?_
            refine tl_aload_n rfl rfl ?_
            refine tl_getr (c := 12) (k9 := 79) (b := 431) rfl rfl rfl rfl ?_
            refine tl_iload rfl rfl ?_
            refine tl_iload rfl rfl ?_
            refine tl_iast (n := 65) rfl rfl rfl (by omega) (by omega) ?_
            show jT _ _ 175 _ _ _ _
            refine tl_iinc rfl rfl rfl ?_
            refine tl_goto (tgt := 59) rfl rfl ?_
            show jT _ _ 59 _ _ _ _
            -- leaf 6 at 59
            first
              | (exfalso; omega)
              | (have en : neq R k p = 0 := by rw [neq, if_pos (by omega)]
                 rw [en] at es
                 have := ih (p + 1) (hs mem 431 (p + 1) (ed R k p + 0)) (some (.int (jI (ed R k p + 0)))) (by omega) ⟨by omega, fun q hq => by by_cases c : q = p + 1; (subst c; rw [hs_s, es]; omega); (rw [hs_k c]; exact i1 q (by omega)), fun q q1 q2 => by rw [hs_k (by omega)]; exact i2 q (by omega) q2, fun x hx => by rw [hs_O hx]; exact fr x hx⟩
                 rw [show (((p + 1 : Nat) : Int) + 1) = (p : Int) + 1 + 1 by omega] at this
                 rw [show ((p : Int) + 1).toNat = p + 1 by omega]
                 exact this)
              | (have en : neq R k p = 0 := by rw [neq, if_pos (by omega)]
                 rw [en] at es
                 have := ih (p + 1) (hs mem 431 (p + 1) (ed R k (p + 1) + 1)) (some (.int (jI (ed R k (p + 1) + 1)))) (by omega) ⟨by omega, fun q hq => by by_cases c : q = p + 1; (subst c; rw [hs_s, es]; omega); (rw [hs_k c]; exact i1 q (by omega)), fun q q1 q2 => by rw [hs_k (by omega)]; exact i2 q (by omega) q2, fun x hx => by rw [hs_O hx]; exact fr x hx⟩
                 rw [show (((p + 1 : Nat) : Int) + 1) = (p : Int) + 1 + 1 by omega] at this
                 rw [show ((p : Int) + 1).toNat = p + 1 by omega]
                 exact this)
              | (have en : neq R k p = 0 := by rw [neq, if_pos (by omega)]
                 rw [en] at es
                 have := ih (p + 1) (hs mem 431 (p + 1) (ed R (k + 1) p + 1)) (some (.int (jI (ed R (k + 1) p + 1)))) (by omega) ⟨by omega, fun q hq => by by_cases c : q = p + 1; (subst c; rw [hs_s, es]; omega); (rw [hs_k c]; exact i1 q (by omega)), fun q q1 q2 => by rw [hs_k (by omega)]; exact i2 q (by omega) q2, fun x hx => by rw [hs_O hx]; exact fr x hx⟩
                 rw [show (((p + 1 : Nat) : Int) + 1) = (p : Int) + 1 + 1 by omega] at this
                 rw [show ((p : Int) + 1).toNat = p + 1 by omega]
                 exact this)
              | (have en : neq R k p = 1 := by rw [neq, if_neg (by omega)]
                 rw [en] at es
                 have := ih (p + 1) (hs mem 431 (p + 1) (ed R k p + 1)) (some (.int (jI (ed R k p + 1)))) (by omega) ⟨by omega, fun q hq => by by_cases c : q = p + 1; (subst c; rw [hs_s, es]; omega); (rw [hs_k c]; exact i1 q (by omega)), fun q q1 q2 => by rw [hs_k (by omega)]; exact i2 q (by omega) q2, fun x hx => by rw [hs_O hx]; exact fr x hx⟩
                 rw [show (((p + 1 : Nat) : Int) + 1) = (p : Int) + 1 + 1 by omega] at this
                 rw [show ((p : Int) + 1).toNat = p + 1 by omega]
                 exact this)
              | (have en : neq R k p = 1 := by rw [neq, if_neg (by omega)]
                 rw [en] at es
                 have := ih (p + 1) (hs mem 431 (p + 1) (ed R k (p + 1) + 1)) (some (.int (jI (ed R k (p + 1) + 1)))) (by omega) ⟨by omega, fun q hq => by by_cases c : q = p + 1; (subst c; rw [hs_s, es]; omega); (rw [hs_k c]; exact i1 q (by omega)), fun q q1 q2 => by rw [hs_k (by omega)]; exact i2 q (by omega) q2, fun x hx => by rw [hs_O hx]; exact fr x hx⟩
                 rw [show (((p + 1 : Nat) : Int) + 1) = (p : Int) + 1 + 1 by omega] at this
                 rw [show ((p : Int) + 1).toNat = p + 1 by omega]
                 exact this)
              | (have en : neq R k p = 1 := by rw [neq, if_neg (by omega)]
                 rw [en] at es
                 have := ih (p + 1) (hs mem 431 (p + 1) (ed R (k + 1) p + 1)) (some (.int (jI (ed R (k + 1) p + 1)))) (by omega) ⟨by omega, fun q hq => by by_cases c : q = p + 1; (subst c; rw [hs_s, es]; omega); (rw [hs_k c]; exact i1 q (by omega)), fun q q1 q2 => by rw [hs_k (by omega)]; exact i2 q (by omega) q2, fun x hx => by rw [hs_O hx]; exact fr x hx⟩
                 rw [show (((p + 1 : Nat) : Int) + 1) = (p : Int) + 1 + 1 by omega] at this
                 rw [show ((p : Int) + 1).toNat = p + 1 by omega]
                 exact this)
        · show jT _ _ 108 _ _ _ _
          refine tl_aload_n rfl rfl ?_
          refine tl_getr (c := 12) (k9 := 79) (b := 431) rfl rfl rfl rfl ?_
          refine tl_iload rfl rfl ?_
          refine tl_iald (n := 65) rfl rfl rfl (by omega) (by omega) ?_
          rw [show ((p : Int) + 1).toNat = p + 1 by omega, i2 (p + 1) (by omega) (by omega)]
          refine tl_iconst rfl ?_
          show jT _ _ 116 _ _ _ _
          refine tl_iadd rfl ?_
          refine tl_goto (tgt := 122) rfl rfl ?_
          refine tl_istore rfl (Nat.le_of_ble_eq_true rfl) rfl ?_
          refine tl_aload_n rfl rfl ?_
          refine tl_getr (c := 12) (k9 := 79) (b := 431) rfl rfl rfl rfl ?_
          refine tl_iload rfl rfl ?_
          refine tl_iconst rfl ?_
          show jT _ _ 131 _ _ _ _
          refine tl_isub rfl ?_
          refine tl_iald (n := 65) rfl rfl rfl (by omega) (by omega) ?_
          rw [show ((p : Int) + 1 - 1).toNat = p by omega, i1 p (by omega)]
          refine tl_iconst rfl ?_
          refine tl_iadd rfl ?_
          refine tl_iload rfl rfl ?_
          refine tl_icmp_ge (tgt := 154) rfl rfl ⟨by omega, by omega⟩ ⟨by omega, by omega⟩ (fun c8 => ?_) (fun c8 => ?_)
          · skip
            refine tl_iload rfl rfl ?_
            show jT _ _ 156 _ _ _ _
            refine tl_istore rfl (Nat.le_of_ble_eq_true rfl) rfl ?_
            refine tl_aload_n rfl rfl ?_
            refine tl_getr (c := 12) (k9 := 79) (b := 431) rfl rfl rfl rfl ?_
            refine tl_iload rfl rfl ?_
            refine tl_iald (n := 65) rfl rfl rfl (by omega) (by omega) ?_
            rw [show ((p : Int) + 1).toNat = p + 1 by omega, i2 (p + 1) (by omega) (by omega)]
            refine tl_istore_n rfl (Nat.le_of_ble_eq_true rfl) rfl ?_
            refine tl_aload_n rfl rfl ?_
            show jT _ _ 167 _ _ _ _
            refine tl_getr (c := 12) (k9 := 79) (b := 431) rfl rfl rfl rfl ?_
            refine tl_iload rfl rfl ?_
            refine tl_iload rfl rfl ?_
            refine tl_iast (n := 65) rfl rfl rfl (by omega) (by omega) ?_
            refine tl_iinc rfl rfl rfl ?_
            refine tl_goto (tgt := 59) rfl rfl ?_
            show jT _ _ 59 _ _ _ _
            -- leaf 7 at 59
            first
              | (exfalso; omega)
              | (have en : neq R k p = 0 := by rw [neq, if_pos (by omega)]
                 rw [en] at es
                 have := ih (p + 1) (hs mem 431 (p + 1) (ed R k p + 0)) (some (.int (jI (ed R k p + 0)))) (by omega) ⟨by omega, fun q hq => by by_cases c : q = p + 1; (subst c; rw [hs_s, es]; omega); (rw [hs_k c]; exact i1 q (by omega)), fun q q1 q2 => by rw [hs_k (by omega)]; exact i2 q (by omega) q2, fun x hx => by rw [hs_O hx]; exact fr x hx⟩
                 rw [show (((p + 1 : Nat) : Int) + 1) = (p : Int) + 1 + 1 by omega] at this
                 rw [show ((p : Int) + 1).toNat = p + 1 by omega]
                 exact this)
              | (have en : neq R k p = 0 := by rw [neq, if_pos (by omega)]
                 rw [en] at es
                 have := ih (p + 1) (hs mem 431 (p + 1) (ed R k (p + 1) + 1)) (some (.int (jI (ed R k (p + 1) + 1)))) (by omega) ⟨by omega, fun q hq => by by_cases c : q = p + 1; (subst c; rw [hs_s, es]; omega); (rw [hs_k c]; exact i1 q (by omega)), fun q q1 q2 => by rw [hs_k (by omega)]; exact i2 q (by omega) q2, fun x hx => by rw [hs_O hx]; exact fr x hx⟩
                 rw [show (((p + 1 : Nat) : Int) + 1) = (p : Int) + 1 + 1 by omega] at this
                 rw [show ((p : Int) + 1).toNat = p + 1 by omega]
                 exact this)
              | (have en : neq R k p = 0 := by rw [neq, if_pos (by omega)]
                 rw [en] at es
                 have := ih (p + 1) (hs mem 431 (p + 1) (ed R (k + 1) p + 1)) (some (.int (jI (ed R (k + 1) p + 1)))) (by omega) ⟨by omega, fun q hq => by by_cases c : q = p + 1; (subst c; rw [hs_s, es]; omega); (rw [hs_k c]; exact i1 q (by omega)), fun q q1 q2 => by rw [hs_k (by omega)]; exact i2 q (by omega) q2, fun x hx => by rw [hs_O hx]; exact fr x hx⟩
                 rw [show (((p + 1 : Nat) : Int) + 1) = (p : Int) + 1 + 1 by omega] at this
                 rw [show ((p : Int) + 1).toNat = p + 1 by omega]
                 exact this)
              | (have en : neq R k p = 1 := by rw [neq, if_neg (by omega)]
                 rw [en] at es
                 have := ih (p + 1) (hs mem 431 (p + 1) (ed R k p + 1)) (some (.int (jI (ed R k p + 1)))) (by omega) ⟨by omega, fun q hq => by by_cases c : q = p + 1; (subst c; rw [hs_s, es]; omega); (rw [hs_k c]; exact i1 q (by omega)), fun q q1 q2 => by rw [hs_k (by omega)]; exact i2 q (by omega) q2, fun x hx => by rw [hs_O hx]; exact fr x hx⟩
                 rw [show (((p + 1 : Nat) : Int) + 1) = (p : Int) + 1 + 1 by omega] at this
                 rw [show ((p : Int) + 1).toNat = p + 1 by omega]
                 exact this)
              | (have en : neq R k p = 1 := by rw [neq, if_neg (by omega)]
                 rw [en] at es
                 have := ih (p + 1) (hs mem 431 (p + 1) (ed R k (p + 1) + 1)) (some (.int (jI (ed R k (p + 1) + 1)))) (by omega) ⟨by omega, fun q hq => by by_cases c : q = p + 1; (subst c; rw [hs_s, es]; omega); (rw [hs_k c]; exact i1 q (by omega)), fun q q1 q2 => by rw [hs_k (by omega)]; exact i2 q (by omega) q2, fun x hx => by rw [hs_O hx]; exact fr x hx⟩
                 rw [show (((p + 1 : Nat) : Int) + 1) = (p : Int) + 1 + 1 by omega] at this
                 rw [show ((p : Int) + 1).toNat = p + 1 by omega]
                 exact this)
              | (have en : neq R k p = 1 := by rw [neq, if_neg (by omega)]
                 rw [en] at es
                 have := ih (p + 1) (hs mem 431 (p + 1) (ed R (k + 1) p + 1)) (some (.int (jI (ed R (k + 1) p + 1)))) (by omega) ⟨by omega, fun q hq => by by_cases c : q = p + 1; (subst c; rw [hs_s, es]; omega); (rw [hs_k c]; exact i1 q (by omega)), fun q q1 q2 => by rw [hs_k (by omega)]; exact i2 q (by omega) q2, fun x hx => by rw [hs_O hx]; exact fr x hx⟩
                 rw [show (((p + 1 : Nat) : Int) + 1) = (p : Int) + 1 + 1 by omega] at this
                 rw [show ((p : Int) + 1).toNat = p + 1 by omega]
                 exact this)
          · show jT _ _ 140 _ _ _ _
            refine tl_aload_n rfl rfl ?_
            show jT _ _ 141 _ _ _ _
            refine tl_getr (c := 12) (k9 := 79) (b := 431) rfl rfl rfl rfl ?_
            refine tl_iload rfl rfl ?_
            refine tl_iconst rfl ?_
            refine tl_isub rfl ?_
            refine tl_iald (n := 65) rfl rfl rfl (by omega) (by omega) ?_
            rw [show ((p : Int) + 1 - 1).toNat = p by omega, i1 p (by omega)]
            refine tl_iconst rfl ?_
            refine tl_iadd rfl ?_
            show jT _ _ 151 _ _ _ _
            refine tl_goto (tgt := 156) rfl rfl ?_
            refine tl_istore rfl (Nat.le_of_ble_eq_true rfl) rfl ?_
            refine tl_aload_n rfl rfl ?_
            refine tl_getr (c := 12) (k9 := 79) (b := 431) rfl rfl rfl rfl ?_
            refine tl_iload rfl rfl ?_
            refine tl_iald (n := 65) rfl rfl rfl (by omega) (by omega) ?_
            rw [show ((p : Int) + 1).toNat = p + 1 by omega, i2 (p + 1) (by omega) (by omega)]
            refine tl_istore_n rfl (Nat.le_of_ble_eq_true rfl) rfl ?_
            show jT _ _ 166 _ _ _ _
            refine tl_aload_n rfl rfl ?_
            refine tl_getr (c := 12) (k9 := 79) (b := 431) rfl rfl rfl rfl ?_
            refine tl_iload rfl rfl ?_
            refine tl_iload rfl rfl ?_
            refine tl_iast (n := 65) rfl rfl rfl (by omega) (by omega) ?_
            refine tl_iinc rfl rfl rfl ?_
            refine tl_goto (tgt := 59) rfl rfl ?_
            show jT _ _ 59 _ _ _ _
            -- leaf 8 at 59
            first
              | (exfalso; omega)
              | (have en : neq R k p = 0 := by rw [neq, if_pos (by omega)]
                 rw [en] at es
                 have := ih (p + 1) (hs mem 431 (p + 1) (ed R k p + 0)) (some (.int (jI (ed R k p + 0)))) (by omega) ⟨by omega, fun q hq => by by_cases c : q = p + 1; (subst c; rw [hs_s, es]; omega); (rw [hs_k c]; exact i1 q (by omega)), fun q q1 q2 => by rw [hs_k (by omega)]; exact i2 q (by omega) q2, fun x hx => by rw [hs_O hx]; exact fr x hx⟩
                 rw [show (((p + 1 : Nat) : Int) + 1) = (p : Int) + 1 + 1 by omega] at this
                 rw [show ((p : Int) + 1).toNat = p + 1 by omega]
                 exact this)
              | (have en : neq R k p = 0 := by rw [neq, if_pos (by omega)]
                 rw [en] at es
                 have := ih (p + 1) (hs mem 431 (p + 1) (ed R k (p + 1) + 1)) (some (.int (jI (ed R k (p + 1) + 1)))) (by omega) ⟨by omega, fun q hq => by by_cases c : q = p + 1; (subst c; rw [hs_s, es]; omega); (rw [hs_k c]; exact i1 q (by omega)), fun q q1 q2 => by rw [hs_k (by omega)]; exact i2 q (by omega) q2, fun x hx => by rw [hs_O hx]; exact fr x hx⟩
                 rw [show (((p + 1 : Nat) : Int) + 1) = (p : Int) + 1 + 1 by omega] at this
                 rw [show ((p : Int) + 1).toNat = p + 1 by omega]
                 exact this)
              | (have en : neq R k p = 0 := by rw [neq, if_pos (by omega)]
                 rw [en] at es
                 have := ih (p + 1) (hs mem 431 (p + 1) (ed R (k + 1) p + 1)) (some (.int (jI (ed R (k + 1) p + 1)))) (by omega) ⟨by omega, fun q hq => by by_cases c : q = p + 1; (subst c; rw [hs_s, es]; omega); (rw [hs_k c]; exact i1 q (by omega)), fun q q1 q2 => by rw [hs_k (by omega)]; exact i2 q (by omega) q2, fun x hx => by rw [hs_O hx]; exact fr x hx⟩
                 rw [show (((p + 1 : Nat) : Int) + 1) = (p : Int) + 1 + 1 by omega] at this
                 rw [show ((p : Int) + 1).toNat = p + 1 by omega]
                 exact this)
              | (have en : neq R k p = 1 := by rw [neq, if_neg (by omega)]
                 rw [en] at es
                 have := ih (p + 1) (hs mem 431 (p + 1) (ed R k p + 1)) (some (.int (jI (ed R k p + 1)))) (by omega) ⟨by omega, fun q hq => by by_cases c : q = p + 1; (subst c; rw [hs_s, es]; omega); (rw [hs_k c]; exact i1 q (by omega)), fun q q1 q2 => by rw [hs_k (by omega)]; exact i2 q (by omega) q2, fun x hx => by rw [hs_O hx]; exact fr x hx⟩
                 rw [show (((p + 1 : Nat) : Int) + 1) = (p : Int) + 1 + 1 by omega] at this
                 rw [show ((p : Int) + 1).toNat = p + 1 by omega]
                 exact this)
              | (have en : neq R k p = 1 := by rw [neq, if_neg (by omega)]
                 rw [en] at es
                 have := ih (p + 1) (hs mem 431 (p + 1) (ed R k (p + 1) + 1)) (some (.int (jI (ed R k (p + 1) + 1)))) (by omega) ⟨by omega, fun q hq => by by_cases c : q = p + 1; (subst c; rw [hs_s, es]; omega); (rw [hs_k c]; exact i1 q (by omega)), fun q q1 q2 => by rw [hs_k (by omega)]; exact i2 q (by omega) q2, fun x hx => by rw [hs_O hx]; exact fr x hx⟩
                 rw [show (((p + 1 : Nat) : Int) + 1) = (p : Int) + 1 + 1 by omega] at this
                 rw [show ((p : Int) + 1).toNat = p + 1 by omega]
                 exact this)
              | (have en : neq R k p = 1 := by rw [neq, if_neg (by omega)]
                 rw [en] at es
                 have := ih (p + 1) (hs mem 431 (p + 1) (ed R (k + 1) p + 1)) (some (.int (jI (ed R (k + 1) p + 1)))) (by omega) ⟨by omega, fun q hq => by by_cases c : q = p + 1; (subst c; rw [hs_s, es]; omega); (rw [hs_k c]; exact i1 q (by omega)), fun q q1 q2 => by rw [hs_k (by omega)]; exact i2 q (by omega) q2, fun x hx => by rw [hs_O hx]; exact fr x hx⟩
                 rw [show (((p + 1 : Nat) : Int) + 1) = (p : Int) + 1 + 1 by omega] at this
                 rw [show ((p : Int) + 1).toNat = p + 1 by omega]
                 exact this)
set_option maxRecDepth 20000 in
set_option maxHeartbeats 1000000 in
theorem r_dist_B (l : Launch) (h : jH) (R : Nat → Int) (hR : h 390 = R) (ok : Rok R) (P : Option Value → jH → Prop) (hP : ∀ mem, (∀ x, x ≠ 431 → mem x = h x) → P (some (.int (jI (Ap R)))) mem) : ∀ (m : Nat) (k : Nat) (mem : jH) (y3 : Option Value) (y4 : Option Value) (y5 : Option Value), (R 5).toNat - k < m → ((k : Int) ≤ R 5 ∧ (∀ q : Nat, q ≤ (R 70).toNat → mem 431 q = ed R k q) ∧ ∀ x, x ≠ 431 → mem x = h x) → jT l 346 33 [some (.ref 388), some (.int (jI ((((R 70).toNat : Nat) : Int)))), some (.int (jI ((k : Int) + 1))), y3, y4, y5] [] mem P := by
  have ok9 := ok
  obtain ⟨k1, k2, k3, k4, k5, k6, k7⟩ := ok9
  intro m
  induction m with
  | zero => intro k mem y3 y4 y5 hk; omega
  | succ m ih =>
    intro k mem y3 y4 y5 hk hi
    obtain ⟨i0, i1, fr⟩ := hi
    have e390 : mem 390 = R := by rw [fr 390 (by decide)]; exact hR
    refine tl_iload_n rfl rfl ?_
    refine tl_aload_n rfl rfl ?_
    refine tl_iconst rfl ?_
    refine tl_v1i (c9 := 12) (c_sizeOf l _ 0 (by decide) (by decide)) rfl rfl rfl rfl rfl (Nat.le_of_ble_eq_true rfl) (fun z1 h1 p1 => ?_)
    obtain ⟨q1, rfl⟩ := p1
    have q1 := q1.symm
    subst q1
    rw [show (5 + 65 * 0 : Int).toNat = 5 from rfl]
    rw [e390]
    refine tl_icmp_gt (tgt := 187) rfl rfl ⟨by omega, by omega⟩ ⟨by omega, by omega⟩ (fun c1 => ?_) (fun c1 => ?_)
    · skip
      refine tl_aload_n rfl rfl ?_
      show jT _ _ 188 _ _ _ _
      refine tl_getr (c := 12) (k9 := 79) (b := 431) rfl rfl rfl rfl ?_
      refine tl_iload_n rfl rfl ?_
      refine tl_iald (n := 65) rfl rfl rfl (by omega) (by omega) ?_
      rw [Int.toNat_natCast, i1 _ (by omega)]
      refine tl_iret rfl ?_
      -- leaf 0 at 193
      have e : k = (R 5).toNat := by omega
      rw [e]
      exact hP mem fr
    · show jT _ _ 42 _ _ _ _
      refine tl_aload_n rfl rfl ?_
      refine tl_getr (c := 12) (k9 := 79) (b := 431) rfl rfl rfl rfl ?_
      refine tl_iconst rfl ?_
      show jT _ _ 47 _ _ _ _
      refine tl_iald (n := 65) rfl rfl rfl (by omega) (by omega) ?_
      rw [show Int.toNat 0 = 0 from rfl]
      rw [i1 0 (by omega)]
      refine tl_istore_n rfl (Nat.le_of_ble_eq_true rfl) rfl ?_
      refine tl_aload_n rfl rfl ?_
      refine tl_getr (c := 12) (k9 := 79) (b := 431) rfl rfl rfl rfl ?_
      refine tl_iconst rfl ?_
      refine tl_iload_n rfl rfl ?_
      refine tl_iast (n := 65) rfl rfl rfl (by omega) (by omega) ?_
      rw [show Int.toNat 0 = 0 from rfl]
      show jT _ _ 56 _ _ _ _
      refine tl_iconst rfl ?_
      refine tl_istore rfl (Nat.le_of_ble_eq_true rfl) rfl ?_
      show jT _ _ 59 _ _ _ _
      -- leaf 1 at 59
      refine r_dist_C l h R hR ok k (by omega) P (fun mem2 y3 y4 y5 hj => ?_) _ 0 _ y5 (Nat.lt_succ_self _) ⟨Nat.zero_le _, fun q hq => ?_, fun q q1 q2 => ?_, fun x hx => ?_⟩
      · skip
        refine tl_iinc rfl rfl rfl ?_
        refine tl_goto (tgt := 33) rfl rfl ?_
        show jT _ _ 33 _ _ _ _
        -- leaf 0 at 33
        have := ih (k + 1) mem2 y3 y4 y5 (by omega) ⟨by omega, hj.1, hj.2⟩
        rw [show (((k + 1 : Nat) : Int) + 1) = (k : Int) + 1 + 1 by omega] at this
        exact this
      · rw [show q = 0 by omega, hs_s, ed_0]; omega
      · rw [hs_k (by omega)]; exact i1 q q2
      · rw [hs_O hx]; exact fr x hx
set_option maxRecDepth 20000 in
set_option maxHeartbeats 1000000 in
theorem r_apart (l : Launch) (g h : jH) (t : Int) (hI0 : IC g h t) : cI l 346 [.ref 388] h (PRF (Dapart (Tz h))) := by
  refine cI.of rfl rfl ?_
  refine tl_aload_n rfl rfl ?_
  refine tl_iconst rfl ?_
  refine tl_puti (c := 12) (k9 := 0) rfl rfl rfl rfl ?_
  have hI := hI0.z
  change jT _ _ _ _ _ (Tz h) _
  generalize Tz h = m at hI ⊢
  have ok := hI.ok
  have k3 := ok.2.2.1
  have k4 := ok.2.2.2.1
  have k1 := ok.1
  refine tl_aload_n rfl rfl ?_
  refine tl_iconst rfl ?_
  refine tl_v1i (c9 := 12) (c_sizeOf l _ 1 (by decide) (by decide)) rfl rfl rfl rfl rfl (Nat.le_of_ble_eq_true rfl) (fun z1 h1 p1 => ?_)
  obtain ⟨q1, rfl⟩ := p1
  have q1 := q1.symm
  subst q1
  rw [show (5 + 65 * 1 : Int).toNat = 70 from rfl]
  show jT _ _ 10 _ _ _ _
  refine tl_istore_n rfl (Nat.le_of_ble_eq_true rfl) rfl ?_
  refine tl_iconst rfl ?_
  refine tl_istore_n rfl (Nat.le_of_ble_eq_true rfl) rfl ?_
  show jT _ _ 13 _ _ _ _
  -- leaf 0 at 13
  rw [show jI (m 390 70) = jI (((m 390 70).toNat : Nat) : Int) by congr 1; omega]
  refine r_dist_A l m (m 390) rfl ok _ (fun mem hi => ?_) _ 0 m (Nat.lt_succ_self _) ⟨Nat.zero_le _, fun p hp => by omega, fun x _ => rfl⟩
  refine tl_iconst rfl ?_
  refine tl_istore_n rfl (Nat.le_of_ble_eq_true rfl) rfl ?_
  show jT _ _ 33 _ _ _ _
  -- leaf 0 at 33
  refine r_dist_B l m (m 390) rfl ok _ (fun mem2 fr => ⟨_, rfl, PRF.rd (RF.of (fun x hx => fr x (by omega)) (fun q hq => by rw [fr 388 (by decide)]))⟩) _ 0 mem _ _ _ (Nat.lt_succ_self _) ⟨by omega, hi.1, hi.2⟩
