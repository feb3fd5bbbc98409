/-! the order found by the walked file -/
theorem ORK_b {h h2 S Q : jH} {n k : Nat} (k9 : ORK h S n Q) (k1 : k < n) (k3 : Q 0 k = 1) (q0 : 0 ≤ Q 2 0) (e : orI S n Q = (k : Int)) (a1 : ∀ q, h2 358 q = if q = k then 0 else h 358 q) (a2 : h2 359 = h 359) (a3 : ∀ q, q < n → h2 360 q = cnR S (or1 S n Q 0) n q) (a4 : h2 356 1 = Q 2 0 + 1 ∧ h2 356 2 = h 356 2 ∧ h2 356 3 = h 356 3) (a5 : ∀ i, h2 357 i = if i = (Q 2 0).toNat then (k : Int) else h 357 i) : ORK h2 S n (or1 S n Q) := by
  have E0 : ∀ i, i ≠ k → or1 S n Q 0 i = Q 0 i := fun i hi => by rw [or1_b e, hs_o (by decide), hs_o (by decide), hs_k hi]
  have Ek : or1 S n Q 0 k = 0 := by rw [or1_b e, hs_o (by decide), hs_o (by decide), hs_s]
  have E2 : or1 S n Q 2 0 = Q 2 0 + 1 := by rw [or1_b e, hs_s]
  have E1 : ∀ i, or1 S n Q 1 i = if i = (Q 2 0).toNat then (k : Int) else Q 1 i := fun i => by
    rw [or1_b e, hs_o (by decide)]
    by_cases c : i = (Q 2 0).toNat
    · rw [if_pos c, c, hs_s]
    · rw [if_neg c, hs_k c, hs_o (by decide)]
  refine ⟨fun q hq => ⟨?_, ?_, a3 q hq⟩, by rw [E2]; exact a4.1, ?_, ?_, fun i hi => ?_⟩
  · rw [a1]
    by_cases c : q = k
    · subst c; rw [if_pos rfl, lf_0 (by omega)]
    · rw [if_neg c, (k9.1 q hq).1]; unfold lf; rw [E0 q c]
  · rw [a2, (k9.1 q hq).2.1]
    unfold dpC
    by_cases c : q = k
    · subst c; rw [Ek, k3, if_neg (by omega), if_neg (by omega)]
    · rw [E0 q c]
  · rw [a4.2.1, k9.2.2.1, dpC_up k1 k3 0 (or1 S n Q 0) Ek E0, if_neg (by omega)]; omega
  · rw [a4.2.2, k9.2.2.2.1, dpS_up k1 k3 0 (or1 S n Q 0) Ek E0, if_neg (by omega)]; omega
  · rw [E2] at hi
    rw [a5, E1]
    by_cases c : i = (Q 2 0).toNat
    · rw [if_pos c, if_pos c]
    · rw [if_neg c, if_neg c]; exact k9.2.2.2.2 i (by omega)
theorem ORK_a {h h2 S Q : jH} {n k : Nat} (k9 : ORK h S n Q) (k1 : k < n) (k3 : Q 0 k = 1) (e : orI S n Q = -1) (f : orM S n Q = (k : Int)) (a1 : ∀ q, h2 358 q = if q = k then 0 else h 358 q) (a2 : ∀ q, h2 359 q = if q = k then 1 else h 359 q) (a3 : ∀ q, q < n → h2 360 q = cnR S (or1 S n Q 0) n q) (a4 : h2 356 1 = h 356 1 ∧ h2 356 2 = h 356 2 + 1 ∧ h2 356 3 = h 356 3 + S 2 k) (a5 : h2 357 = h 357) : ORK h2 S n (or1 S n Q) := by
  have E0 : ∀ i, i ≠ k → or1 S n Q 0 i = Q 0 i := fun i hi => by rw [or1_a e f, hs_k hi]
  have Ek : or1 S n Q 0 k = 2 := by rw [or1_a e f, hs_s]
  have E2 : ∀ i, or1 S n Q 2 i = Q 2 i := fun i => by rw [or1_a e f, hs_o (by decide)]
  have E1 : ∀ i, or1 S n Q 1 i = Q 1 i := fun i => by rw [or1_a e f, hs_o (by decide)]
  refine ⟨fun q hq => ⟨?_, ?_, a3 q hq⟩, by rw [E2, a4.1]; exact k9.2.1, ?_, ?_, fun i hi => ?_⟩
  · rw [a1]
    by_cases c : q = k
    · subst c; rw [if_pos rfl, lf_0 (by omega)]
    · rw [if_neg c, (k9.1 q hq).1]; unfold lf; rw [E0 q c]
  · rw [a2]
    by_cases c : q = k
    · subst c; rw [if_pos rfl]; unfold dpC; rw [Ek, if_pos rfl]
    · rw [if_neg c, (k9.1 q hq).2.1]; unfold dpC; rw [E0 q c]
  · rw [a4.2.1, k9.2.2.1, dpC_up k1 k3 2 (or1 S n Q 0) Ek E0, if_pos rfl]
  · rw [a4.2.2, k9.2.2.2.1, dpS_up k1 k3 2 (or1 S n Q 0) Ek E0, if_pos rfl]
  · rw [E2] at hi
    rw [a5, E1]; exact k9.2.2.2.2 i hi
set_option maxRecDepth 20000 in
set_option maxHeartbeats 1000000 in
theorem k_rel_lp (l : Launch) (h : jH) (S : jH) (n : Nat) (sb : SB9 S n) (kp : PTK h S n) (k : Nat) (hk9 : k < n) (f : Nat → Int) (fb : ∀ q, q < n → -100 ≤ f q ∧ f q ≤ 100) (P : Option Value → jH → Prop) (hP : ∀ mem, ((∀ q, q < n → mem 360 q = f q - (if k ≠ q ∧ spl S q k = true then 1 else 0)) ∧ ∀ x, x ≠ 360 → mem x = h x) → P none mem) : ∀ (m : Nat) (i : Nat) (mem : jH), n - i < m → (i ≤ n ∧ (∀ q, q < n → mem 360 q = if q < i then f q - (if k ≠ q ∧ spl S q k = true then 1 else 0) else f q) ∧ ∀ x, x ≠ 360 → mem x = h x) → jT l 17 21 [some (.ref 356), some (.ref 339), some (.int (jI ((k : Int)))), some (.int (jI ((n : Int)))), some (.int (jI ((i : Int))))] [] mem P := by
  have n99 := sb.1
  intro m
  induction m with
  | zero => intro i mem hk; omega
  | succ m ih =>
    intro i mem hk hi
    obtain ⟨i0, i1, fr⟩ := hi
    have kpm : PTK mem S n := kp.of (fun x x1 x2 => fr x (by omega))
    have ei : n ≤ i ∨ (i < n ∧ mem 360 i = f i) := by
      by_cases c : i < n
      · have := i1 i c; rw [if_neg (by omega)] at this; exact Or.inr ⟨c, this⟩
      · exact Or.inl (by omega)
    refine tl_iload rfl rfl ?_
    refine tl_iload_n rfl rfl ?_
    refine tl_icmp_ge (tgt := 67) rfl rfl ⟨by omega, by omega⟩ ⟨by omega, by omega⟩ (fun c1 => ?_) (fun c1 => ?_)
    · skip
      refine tl_ret rfl ?_
      -- leaf 0 at 67
      have e : i = n := by omega
      subst e
      exact hP mem ⟨fun q hq => by rw [i1 q hq, if_pos hq], fr⟩
    · show jT _ _ 27 _ _ _ _
      refine tl_iload rfl rfl ?_
      refine tl_bipush rfl rfl ?_
      show jT _ _ 31 _ _ _ _
      refine tl_icmp_ge (tgt := 67) rfl rfl ⟨by omega, by omega⟩ ⟨by omega, by omega⟩ (fun c2 => ?_) (fun c2 => ?_)
      · skip
        exfalso; omega
      · show jT _ _ 34 _ _ _ _
        refine tl_iload rfl rfl ?_
        refine tl_iload_n rfl rfl ?_
        refine tl_icmp_eq (tgt := 61) rfl rfl ⟨by omega, by omega⟩ ⟨by omega, by omega⟩ (fun c3 => ?_) (fun c3 => ?_)
        · skip
          refine tl_iinc rfl rfl rfl ?_
          refine tl_goto (tgt := 21) rfl rfl ?_
          show jT _ _ 21 _ _ _ _
          -- leaf 1 at 21
          refine ih (i + 1) mem (by omega) ⟨by omega, fun q hq => ?_, fr⟩
          rw [i1 q hq]
          by_cases c : q < i
          · rw [if_pos c, if_pos (show q < i + 1 by omega)]
          · rw [if_neg c]
            by_cases d : q = i
            · subst d; rw [if_pos (show q < q + 1 by omega), if_neg (fun w => by omega)]; omega
            · rw [if_neg (show ¬ q < i + 1 by omega)]
        · show jT _ _ 40 _ _ _ _
          refine tl_aload_n rfl rfl ?_
          show jT _ _ 41 _ _ _ _
          refine tl_iload rfl rfl ?_
          refine tl_iload_n rfl rfl ?_
          refine tl_s3i (k_spoils l mem S n sb kpm i k (by omega) (by omega)) rfl rfl rfl (Nat.le_of_ble_eq_true rfl) (fun z1 h1 p1 => ?_)
          obtain ⟨q1, p1⟩ := p1
          have q1 := q1.symm
          subst q1
          have b1 := zb_b (spl S i k)
          subst p1
          refine tl_if_eq (tgt := 61) rfl rfl ⟨by omega, by omega⟩ (fun c4 => ?_) (fun c4 => ?_)
          · skip
            have es := zb0 c4
            refine tl_iinc rfl rfl rfl ?_
            refine tl_goto (tgt := 21) rfl rfl ?_
            show jT _ _ 21 _ _ _ _
            -- leaf 2 at 21
            refine ih (i + 1) mem (by omega) ⟨by omega, fun q hq => ?_, fr⟩
            rw [i1 q hq]
            by_cases c : q < i
            · rw [if_pos c, if_pos (show q < i + 1 by omega)]
            · rw [if_neg c]
              by_cases d : q = i
              · subst d; rw [if_pos (show q < q + 1 by omega), if_neg (fun w => by have := w.2; rw [es] at this; exact absurd this (by decide))]; omega
              · rw [if_neg (show ¬ q < i + 1 by omega)]
          · show jT _ _ 50 _ _ _ _
            have es := zb1' c4
            refine tl_aload_n rfl rfl ?_
            show jT _ _ 51 _ _ _ _
            refine tl_getr (c := 1) (k9 := 8) (b := 360) rfl rfl rfl rfl ?_
            refine tl_iload rfl rfl ?_
            refine tl_dup2 rfl rfl rfl ?_
            refine tl_iald (n := 100) rfl rfl rfl (by omega) (by omega) ?_
            rw [Int.toNat_natCast, show mem 360 i = f i by omega]
            refine tl_iconst rfl ?_
            refine tl_isub rfl ?_
            refine tl_iast (n := 100) rfl rfl rfl (by omega) (by omega) ?_
            rw [Int.toNat_natCast]
            show jT _ _ 61 _ _ _ _
            refine tl_iinc rfl rfl rfl ?_
            refine tl_goto (tgt := 21) rfl rfl ?_
            show jT _ _ 21 _ _ _ _
            -- leaf 3 at 21
            refine ih (i + 1) _ (by omega) ⟨by omega, fun q hq => ?_, fun x hx9 => by rw [hs_O hx9]; exact fr x hx9⟩
            by_cases d : q = i
            · subst d; rw [hs_s, if_pos (show q < q + 1 by omega), if_pos ⟨by omega, es⟩]
            · rw [hs_k d, i1 q hq]
              by_cases c : q < i
              · rw [if_pos c, if_pos (show q < i + 1 by omega)]
              · rw [if_neg c, if_neg (show ¬ q < i + 1 by omega)]
set_option maxRecDepth 20000 in
set_option maxHeartbeats 1000000 in
theorem k_release (l : Launch) (h : jH) (S : jH) (n : Nat) (sb : SB9 S n) (kp : PTK h S n) (k : Nat) (k9 : k < n) (st st' : Nat → Int) (h1 : st k = 1) (h2 : st' k ≠ 1) (e : ∀ q, q ≠ k → st' q = st q) (hc : ∀ q, q < n → h 360 q = cnR S st n q) : cV l 17 [.ref 356, .ref 339, .int (jI (k : Int)), .int (jI (n : Int))] h (fun h' => (∀ q, q < n → h' 360 q = cnR S st' n q) ∧ (∀ q, h' 358 q = if q = k then 0 else h 358 q) ∧ ∀ x, x ≠ 358 → x ≠ 360 → h' x = h x) := by
  have n99 := sb.1
  refine cV.of rfl rfl ?_
  refine tl_iload_n rfl rfl ?_
  refine tl_if_lt (tgt := 10) rfl rfl ⟨by omega, by omega⟩ (fun c1 => ?_) (fun c1 => ?_)
  · skip
    exfalso; omega
  · show jT _ _ 4 _ _ _ _
    refine tl_iload_n rfl rfl ?_
    refine tl_bipush rfl rfl ?_
    refine tl_icmp_lt (tgt := 11) rfl rfl ⟨by omega, by omega⟩ ⟨by omega, by omega⟩ (fun c2 => ?_) (fun c2 => ?_)
    · skip
      refine tl_aload_n rfl rfl ?_
      show jT _ _ 12 _ _ _ _
      refine tl_getr (c := 1) (k9 := 6) (b := 358) rfl rfl rfl rfl ?_
      refine tl_iload_n rfl rfl ?_
      refine tl_iconst rfl ?_
      refine tl_zast (n := 100) rfl (by omega) rfl rfl (by omega) (by omega) ?_
      rw [Int.toNat_natCast]
      refine tl_iconst rfl ?_
      refine tl_istore rfl (Nat.le_of_ble_eq_true rfl) rfl ?_
      show jT _ _ 21 _ _ _ _
      -- leaf 0 at 21
      refine k_rel_lp l (hs h 358 k 0) S n sb (kp.of (fun x x1 x2 => hs_O (by omega))) k k9 (cnR S st n) (fun q hq => by have := cnR_b (S := S) (st := st) (i := q) n; omega) _ (fun mem hz => ⟨rfl, fun q hq => ?_, fun q => ?_, fun x x1 x2 => by rw [hz.2 x x2, hs_O x1]⟩) _ 0 _ (Nat.lt_succ_self _) ⟨Nat.zero_le _, fun q hq => by rw [if_neg (by omega), hs_o (by decide)]; exact hc q hq, fun _ _ => rfl⟩
      · rw [hz.1 q hq, cnR_up k9 h1 h2 e]
      · rw [hz.2 358 (by decide)]
        by_cases c : q = k
        · subst c; rw [if_pos rfl, hs_s]
        · rw [if_neg c, hs_k c]
    · show jT _ _ 10 _ _ _ _
      exfalso; omega
set_option maxRecDepth 20000 in
set_option maxHeartbeats 1000000 in
theorem k_setAside (l : Launch) (h : jH) (S : jH) (n : Nat) (sb : SB9 S n) (kp : PTK h S n) (k : Nat) (k9 : k < n) : cV l 16 [.ref 356, .ref 339, .int (jI (k : Int))] h (fun h' => h' = hs (hs (hs h 359 k 1) 356 2 (h 356 2 + 1)) 356 3 (h 356 3 + S 2 k)) := by
  have n99 := sb.1
  refine cV.of rfl rfl ?_
  refine tl_iload_n rfl rfl ?_
  refine tl_if_lt (tgt := 42) rfl rfl ⟨by omega, by omega⟩ (fun c1 => ?_) (fun c1 => ?_)
  · skip
    exfalso; omega
  · show jT _ _ 4 _ _ _ _
    refine tl_iload_n rfl rfl ?_
    refine tl_bipush rfl rfl ?_
    refine tl_icmp_ge (tgt := 42) rfl rfl ⟨by omega, by omega⟩ ⟨by omega, by omega⟩ (fun c2 => ?_) (fun c2 => ?_)
    · skip
      exfalso; omega
    · show jT _ _ 10 _ _ _ _
      refine tl_aload_n rfl rfl ?_
      show jT _ _ 11 _ _ _ _
      refine tl_getr (c := 1) (k9 := 7) (b := 359) rfl rfl rfl rfl ?_
      refine tl_iload_n rfl rfl ?_
      refine tl_iconst rfl ?_
      refine tl_zast (n := 100) rfl (by omega) rfl rfl (by omega) (by omega) ?_
      rw [Int.toNat_natCast]
      refine tl_aload_n rfl rfl ?_
      refine tl_dup rfl rfl ?_
      refine tl_geti (c := 1) (k9 := 2) rfl rfl rfl ?_
      rw [hs_o (by decide)]
      show jT _ _ 22 _ _ _ _
      refine tl_iconst rfl ?_
      refine tl_iadd rfl ?_
      refine tl_puti (c := 1) (k9 := 2) rfl rfl rfl rfl ?_
      refine tl_aload_n rfl rfl ?_
      refine tl_dup rfl rfl ?_
      refine tl_geti (c := 1) (k9 := 3) rfl rfl rfl ?_
      rw [hs_k (by decide), hs_o (by decide)]
      refine tl_aload_n rfl rfl ?_
      show jT _ _ 33 _ _ _ _
      refine tl_getr (c := 6) (k9 := 6) (b := 341) rfl rfl rfl rfl ?_
      refine tl_iload_n rfl rfl ?_
      refine tl_iald (n := 100) rfl rfl rfl (by omega) (by omega) ?_
      rw [hs_o (by decide), hs_o (by decide), Int.toNat_natCast, (kp k k9).2.1]
      refine tl_iadd rfl ?_
      refine tl_puti (c := 1) (k9 := 3) rfl rfl rfl rfl ?_
      refine tl_ret rfl ?_
      -- leaf 0 at 42
      exact ⟨rfl, rfl⟩
set_option maxRecDepth 20000 in
set_option maxHeartbeats 1000000 in
theorem k_fo9_A (l : Launch) (h : jH) (S : jH) (n : Nat) (sb : SB9 S n) (kp : PTK h S n) (P : Option Value → jH → Prop) (hx : ∀ mem, ((∀ q, q < n → mem 358 q = lf (orT S n 0 0) q ∧ mem 359 q = dpC (orT S n 0 0) q ∧ mem 360 q = cnR S (orT S n 0 0) n q) ∧ ∀ x, x ≠ 358 → x ≠ 359 → x ≠ 360 → mem x = h x) → jT l 11 104 [some (.ref 356), some (.ref 339), some (.int (jI ((n : Int)))), some (.int (jI (orW S n))), some (.int (jI ((n : Int)))), none] [] mem P) : ∀ (m : Nat) (i : Nat) (mem : jH), n - i < m → (i ≤ n ∧ (∀ q, q < i → mem 358 q = lf (orT S n 0 0) q ∧ mem 359 q = dpC (orT S n 0 0) q ∧ mem 360 q = cnR S (orT S n 0 0) n q) ∧ ∀ x, x ≠ 358 → x ≠ 359 → x ≠ 360 → mem x = h x) → jT l 11 30 [some (.ref 356), some (.ref 339), some (.int (jI ((n : Int)))), some (.int (jI (sm (lf (orT S n 0 0)) i))), some (.int (jI ((i : Int)))), none] [] mem P := by
  have n99 := sb.1
  intro m
  induction m with
  | zero => intro i mem hk; omega
  | succ m ih =>
    intro i mem hk hi
    obtain ⟨i0, i1, fr⟩ := hi
    have kpm : PTK mem S n := kp.of (fun x x1 x2 => fr x (by omega) (by omega) (by omega))
    have sq : sm (lf (orT S n 0 0)) (i + 1) = sm (lf (orT S n 0 0)) i + lf (orT S n 0 0) i := rfl
    have sB := sm_b (f := lf (orT S n 0 0)) i (fun k _ => lf_b)
    have ei : n ≤ i ∨ (i < n ∧ mem 341 i = S 2 i ∧ 0 ≤ S 2 i ∧ S 2 i ≤ 64) := by
      by_cases c : i < n
      · have a := sb.2 i c
        exact Or.inr ⟨c, (kpm i c).2.1, a.2.1.1, a.2.1.2⟩
      · exact Or.inl (by omega)
    refine tl_iload rfl rfl ?_
    refine tl_iload_n rfl rfl ?_
    refine tl_icmp_ge (tgt := 104) rfl rfl ⟨by omega, by omega⟩ ⟨by omega, by omega⟩ (fun c1 => ?_) (fun c1 => ?_)
    · skip
      show jT _ _ 104 _ _ _ _
      -- leaf 0 at 104
      have e : i = n := by omega
      subst e
      exact hx mem ⟨i1, fr⟩
    · show jT _ _ 36 _ _ _ _
      refine tl_aload_n rfl rfl ?_
      refine tl_getr (c := 1) (k9 := 6) (b := 358) rfl rfl rfl rfl ?_
      refine tl_iload rfl rfl ?_
      show jT _ _ 42 _ _ _ _
      refine tl_aload_n rfl rfl ?_
      refine tl_getr (c := 6) (k9 := 6) (b := 341) rfl rfl rfl rfl ?_
      refine tl_iload rfl rfl ?_
      refine tl_iald (n := 100) rfl rfl rfl (by omega) (by omega) ?_
      rw [Int.toNat_natCast, show mem 341 i = S 2 i by omega]
      refine tl_if_le (tgt := 56) rfl rfl ⟨by omega, by omega⟩ (fun c2 => ?_) (fun c2 => ?_)
      · skip
        refine tl_iconst rfl ?_
        refine tl_zast (n := 100) rfl (by omega) rfl rfl (by omega) (by omega) ?_
        rw [Int.toNat_natCast]
        show jT _ _ 58 _ _ _ _
        refine tl_aload_n rfl rfl ?_
        refine tl_getr (c := 1) (k9 := 7) (b := 359) rfl rfl rfl rfl ?_
        refine tl_iload rfl rfl ?_
        refine tl_iconst rfl ?_
        refine tl_zast (n := 100) rfl (by omega) rfl rfl (by omega) (by omega) ?_
        rw [Int.toNat_natCast]
        refine tl_aload_n rfl rfl ?_
        refine tl_getr (c := 1) (k9 := 8) (b := 360) rfl rfl rfl rfl ?_
        show jT _ _ 70 _ _ _ _
        refine tl_iload rfl rfl ?_
        refine tl_aload_n rfl rfl ?_
        refine tl_iload rfl rfl ?_
        refine tl_iload_n rfl rfl ?_
        refine tl_s3i (k_countR l _ S n sb (kpm.of (fun x x1 x2 => by rw [hs_O (by omega), hs_O (by omega)])) i (by omega)) rfl rfl rfl (Nat.le_of_ble_eq_true rfl) (fun z1 h1 p1 => ?_)
        obtain ⟨q1, p1⟩ := p1
        have q1 := q1.symm
        subst q1
        subst p1
        refine tl_iast (n := 100) rfl rfl rfl (by omega) (by omega) ?_
        rw [Int.toNat_natCast]
        refine tl_iload_n rfl rfl ?_
        show jT _ _ 81 _ _ _ _
        refine tl_aload_n rfl rfl ?_
        refine tl_getr (c := 1) (k9 := 6) (b := 358) rfl rfl rfl rfl ?_
        refine tl_iload rfl rfl ?_
        refine tl_zald (n := 100) rfl rfl rfl (by omega) (by omega) ?_
        rw [Int.toNat_natCast, hs_o (by decide), hs_o (by decide), hs_s]
        refine tl_if_eq (tgt := 95) rfl rfl ⟨by omega, by omega⟩ (fun c3 => ?_) (fun c3 => ?_)
        · skip
          refine tl_iconst rfl ?_
          refine tl_iadd rfl ?_
          show jT _ _ 97 _ _ _ _
          refine tl_istore_n rfl (Nat.le_of_ble_eq_true rfl) rfl ?_
          refine tl_iinc rfl rfl rfl ?_
          refine tl_goto (tgt := 30) rfl rfl ?_
          show jT _ _ 30 _ _ _ _
          -- leaf 1 at 30
          first
            | (exfalso; omega)
            | skip
          have l1 : lf (orT S n 0 0) i = 0 := by
            show (if (if 0 < S 2 i then (1 : Int) else 0) = 1 then (1 : Int) else 0) = 0
            rw [if_neg (show ¬ 0 < S 2 i by omega), if_neg (by decide)]
          rw [l1] at sq
          have c0 : dpC (orT S n 0 0) i = 0 := by
            show (if (if 0 < S 2 i then (1 : Int) else 0) = 2 then (1 : Int) else 0) = 0
            rw [if_neg (show ¬ 0 < S 2 i by omega), if_neg (by decide)]
          refine jT.loc ?_ (ih (i + 1) (hs (hs (hs mem 358 i 0) 359 i 0) 360 i (cnR S (orT S n 0 0) n i)) (by omega) ⟨by omega, fun q hq => ?_, fun x x1 x2 x3 => by rw [hs_O x3, hs_O x2, hs_O x1]; exact fr x x1 x2 x3⟩)
          · rw [sq, show ((i + 1 : Nat) : Int) = (i : Int) + 1 by omega]; rfl
          · by_cases c : q = i
            · subst c
              refine ⟨?_, ?_, ?_⟩
              · rw [hs_o (by decide), hs_o (by decide), hs_s, l1]
              · rw [hs_o (by decide), hs_s, c0]
              · rw [hs_s]
            · rw [hs_k2 c, hs_k2 c, hs_k2 c, hs_k2 c, hs_k2 c, hs_k2 c, hs_k2 c, hs_k2 c, hs_k2 c]; exact i1 q (by omega)
        · show jT _ _ 91 _ _ _ _
          refine tl_iconst rfl ?_
          refine tl_goto (tgt := 96) rfl rfl ?_
          refine tl_iadd rfl ?_
          refine tl_istore_n rfl (Nat.le_of_ble_eq_true rfl) rfl ?_
          show jT _ _ 98 _ _ _ _
          refine tl_iinc rfl rfl rfl ?_
          refine tl_goto (tgt := 30) rfl rfl ?_
          show jT _ _ 30 _ _ _ _
          -- leaf 2 at 30
          exfalso; omega
      · show jT _ _ 52 _ _ _ _
        refine tl_iconst rfl ?_
        refine tl_goto (tgt := 57) rfl rfl ?_
        refine tl_zast (n := 100) rfl (by omega) rfl rfl (by omega) (by omega) ?_
        rw [Int.toNat_natCast]
        refine tl_aload_n rfl rfl ?_
        refine tl_getr (c := 1) (k9 := 7) (b := 359) rfl rfl rfl rfl ?_
        show jT _ _ 62 _ _ _ _
        refine tl_iload rfl rfl ?_
        refine tl_iconst rfl ?_
        refine tl_zast (n := 100) rfl (by omega) rfl rfl (by omega) (by omega) ?_
        rw [Int.toNat_natCast]
        refine tl_aload_n rfl rfl ?_
        refine tl_getr (c := 1) (k9 := 8) (b := 360) rfl rfl rfl rfl ?_
        refine tl_iload rfl rfl ?_
        refine tl_aload_n rfl rfl ?_
        show jT _ _ 73 _ _ _ _
        refine tl_iload rfl rfl ?_
        refine tl_iload_n rfl rfl ?_
        refine tl_s3i (k_countR l _ S n sb (kpm.of (fun x x1 x2 => by rw [hs_O (by omega), hs_O (by omega)])) i (by omega)) rfl rfl rfl (Nat.le_of_ble_eq_true rfl) (fun z1 h1 p1 => ?_)
        obtain ⟨q1, p1⟩ := p1
        have q1 := q1.symm
        subst q1
        subst p1
        refine tl_iast (n := 100) rfl rfl rfl (by omega) (by omega) ?_
        rw [Int.toNat_natCast]
        refine tl_iload_n rfl rfl ?_
        refine tl_aload_n rfl rfl ?_
        refine tl_getr (c := 1) (k9 := 6) (b := 358) rfl rfl rfl rfl ?_
        show jT _ _ 85 _ _ _ _
        refine tl_iload rfl rfl ?_
        refine tl_zald (n := 100) rfl rfl rfl (by omega) (by omega) ?_
        rw [Int.toNat_natCast, hs_o (by decide), hs_o (by decide), hs_s]
        refine tl_if_eq (tgt := 95) rfl rfl ⟨by omega, by omega⟩ (fun c4 => ?_) (fun c4 => ?_)
        · skip
          refine tl_iconst rfl ?_
          refine tl_iadd rfl ?_
          refine tl_istore_n rfl (Nat.le_of_ble_eq_true rfl) rfl ?_
          refine tl_iinc rfl rfl rfl ?_
          show jT _ _ 101 _ _ _ _
          refine tl_goto (tgt := 30) rfl rfl ?_
          show jT _ _ 30 _ _ _ _
          -- leaf 3 at 30
          exfalso; omega
        · show jT _ _ 91 _ _ _ _
          refine tl_iconst rfl ?_
          refine tl_goto (tgt := 96) rfl rfl ?_
          refine tl_iadd rfl ?_
          refine tl_istore_n rfl (Nat.le_of_ble_eq_true rfl) rfl ?_
          refine tl_iinc rfl rfl rfl ?_
          refine tl_goto (tgt := 30) rfl rfl ?_
          show jT _ _ 30 _ _ _ _
          -- leaf 4 at 30
          have l1 : lf (orT S n 0 0) i = 1 := by
            show (if (if 0 < S 2 i then (1 : Int) else 0) = 1 then (1 : Int) else 0) = 1
            rw [if_pos (show 0 < S 2 i by omega), if_pos rfl]
          rw [l1] at sq
          have c0 : dpC (orT S n 0 0) i = 0 := by
            show (if (if 0 < S 2 i then (1 : Int) else 0) = 2 then (1 : Int) else 0) = 0
            rw [if_pos (show 0 < S 2 i by omega), if_neg (by decide)]
          refine jT.loc ?_ (ih (i + 1) (hs (hs (hs mem 358 i 1) 359 i 0) 360 i (cnR S (orT S n 0 0) n i)) (by omega) ⟨by omega, fun q hq => ?_, fun x x1 x2 x3 => by rw [hs_O x3, hs_O x2, hs_O x1]; exact fr x x1 x2 x3⟩)
          · rw [sq, show ((i + 1 : Nat) : Int) = (i : Int) + 1 by omega]; rfl
          · by_cases c : q = i
            · subst c
              refine ⟨?_, ?_, ?_⟩
              · rw [hs_o (by decide), hs_o (by decide), hs_s, l1]
              · rw [hs_o (by decide), hs_s, c0]
              · rw [hs_s]
            · rw [hs_k2 c, hs_k2 c, hs_k2 c, hs_k2 c, hs_k2 c, hs_k2 c, hs_k2 c, hs_k2 c, hs_k2 c]; exact i1 q (by omega)
set_option maxRecDepth 20000 in
set_option maxHeartbeats 1000000 in
theorem k_fo9_B (l : Launch) (h : jH) (S : jH) (n : Nat) (sb : SB9 S n) (kp : PTK h S n) (P : Option Value → jH → Prop) (hP : ∀ mem, (ORK mem S n (orT S n (orW S n).toNat) ∧ (∀ x, x < 356 ∨ 360 < x → mem x = h x) ∧ ∀ q, 4 ≤ q → mem 356 q = h 356 q) → P none mem) : ∀ (m : Nat) (r : Nat) (mem : jH) (y5 : Option Value), (orW S n).toNat - r < m → ((r : Int) ≤ orW S n ∧ ORK mem S n (orT S n r) ∧ (∀ x, x < 356 ∨ 360 < x → mem x = h x) ∧ ∀ q, 4 ≤ q → mem 356 q = h 356 q) → jT l 11 107 [some (.ref 356), some (.ref 339), some (.int (jI ((n : Int)))), some (.int (jI (orW S n))), some (.int (jI ((r : Int)))), y5] [] mem P := by
  have n99 := sb.1
  have wb := orW_b (S := S) (n := n)
  intro m
  induction m with
  | zero => intro r mem y5 hk; omega
  | succ m ih =>
    intro r mem y5 hk hi
    obtain ⟨i0, k9, fr⟩ := hi
    have kpm : PTK mem S n := kp.of (fun x x1 x2 => fr.1 x (by omega))
    have oi := OI_r (S := S) (n := n) r i0
    have oi2 := oi.2.2.1
    have nx := fun (hr : (r : Int) < orW S n) => oi.nx hr
    refine tl_iload rfl rfl ?_
    refine tl_iload_n rfl rfl ?_
    refine tl_icmp_ge (tgt := 194) rfl rfl ⟨by omega, by omega⟩ ⟨by omega, by omega⟩ (fun c1 => ?_) (fun c1 => ?_)
    · skip
      refine tl_ret rfl ?_
      -- leaf 0 at 194
      have e : r = (orW S n).toNat := by omega
      subst e
      exact hP mem ⟨k9, fr⟩
    · show jT _ _ 113 _ _ _ _
      refine tl_aload_n rfl rfl ?_
      refine tl_iload_n rfl rfl ?_
      show jT _ _ 115 _ _ _ _
      refine tl_v1i (c9 := 1) (k_firstFree l mem S n sb (orT S n r) k9) rfl rfl rfl rfl rfl (Nat.le_of_ble_eq_true rfl) (fun z1 h1 p1 => ?_)
      obtain ⟨q1, p1⟩ := p1
      have q1 := q1.symm
      subst q1
      subst p1
      have ib : -1 ≤ orI S n (orT S n r) ∧ orI S n (orT S n r) ≤ n := by rcases nx (by omega) with ⟨a, _⟩ | ⟨k, k1, k2, _⟩ <;> omega
      refine tl_istore rfl (Nat.le_of_ble_eq_true rfl) rfl ?_
      refine tl_iload rfl rfl ?_
      refine tl_if_lt (tgt := 165) rfl rfl ⟨by omega, by omega⟩ (fun c2 => ?_) (fun c2 => ?_)
      · skip
        rcases nx (by omega) with ⟨a, k, k1, k2, k3⟩ | ⟨k, k1, k2, k3⟩
        rotate_left
        · exfalso; omega
        have ek : or1 S n (orT S n r) 0 k = 2 := by rw [or1_a a k2, hs_s]
        have eo : ∀ q, q ≠ k → or1 S n (orT S n r) 0 q = (orT S n r) 0 q := fun q hq => by rw [or1_a a k2, hs_k hq]
        refine tl_aload_n rfl rfl ?_
        refine tl_aload_n rfl rfl ?_
        refine tl_iload_n rfl rfl ?_
        show jT _ _ 168 _ _ _ _
        refine tl_v2i (c9 := 1) (k_smallest l mem S n sb kpm (orT S n r) k9) rfl rfl rfl rfl rfl (Nat.le_of_ble_eq_true rfl) (fun z2 h2 p2 => ?_)
        obtain ⟨q2, p2⟩ := p2
        have q2 := q2.symm
        subst q2
        subst p2
        rw [k2]
        refine tl_istore rfl (Nat.le_of_ble_eq_true rfl) rfl ?_
        refine tl_aload_n rfl rfl ?_
        refine tl_aload_n rfl rfl ?_
        refine tl_iload rfl rfl ?_
        refine tl_v2v (c9 := 1) (k_setAside l mem S n sb kpm k k1) rfl rfl rfl rfl rfl (Nat.le_of_ble_eq_true rfl) (fun h3 p3 => ?_)
        subst p3
        refine tl_aload_n rfl rfl ?_
        show jT _ _ 181 _ _ _ _
        refine tl_aload_n rfl rfl ?_
        refine tl_iload rfl rfl ?_
        refine tl_iload_n rfl rfl ?_
        refine tl_v3v (c9 := 1) (k_release l _ S n sb (kpm.of (fun x x1 x2 => by (repeat rw [hs_O (by omega)]))) k k1 ((orT S n r) 0) (or1 S n (orT S n r) 0) k3 (by rw [ek]; decide) eo (fun q hq => by (repeat rw [hs_o (by decide)]); exact (k9.1 q hq).2.2)) rfl rfl rfl rfl rfl (Nat.le_of_ble_eq_true rfl) (fun h9 p9 => ?_)
        obtain ⟨r1, r2, r3⟩ := p9
        refine tl_iinc rfl rfl rfl ?_
        refine tl_goto (tgt := 107) rfl rfl ?_
        show jT _ _ 107 _ _ _ _
        -- leaf 1 at 107
        refine ih (r + 1) h9 _ (by omega) ⟨by omega, ORK_a k9 k1 k3 a k2 (fun q => ?_) (fun q => ?_) r1 ⟨?_, ?_, ?_⟩ ?_, fun x hx => ?_, fun q hq => ?_⟩
        · rw [r2 q, hs_o (by decide), hs_o (by decide), hs_o (by decide)]
        · rw [r3 359 (by decide) (by decide), hs_o (by decide), hs_o (by decide)]
          by_cases c : q = k
          · subst c; rw [if_pos rfl, hs_s]
          · rw [if_neg c, hs_k c]
        · rw [r3 356 (by decide) (by decide), hs_k (by decide), hs_k (by decide), hs_o (by decide)]
        · rw [r3 356 (by decide) (by decide), hs_k (by decide), hs_s]
        · rw [r3 356 (by decide) (by decide), hs_s]
        · rw [r3 357 (by decide) (by decide), hs_O (by decide), hs_O (by decide), hs_O (by decide)]
        · rw [r3 x (by omega) (by omega), hs_O (by omega), hs_O (by omega), hs_O (by omega)]; exact fr.1 x hx
        · rw [r3 356 (by decide) (by decide), hs_k (by omega), hs_k (by omega), hs_o (by decide)]; exact fr.2 q hq
      · show jT _ _ 125 _ _ _ _
        rcases nx (by omega) with ⟨a, k, k1, k2, k3⟩ | ⟨k, k1, k2, k3⟩
        · exfalso; omega
        rw [k2]
        have ek : or1 S n (orT S n r) 0 k = 0 := by rw [or1_b k2, hs_o (by decide), hs_o (by decide), hs_s]
        have eo : ∀ q, q ≠ k → or1 S n (orT S n r) 0 q = (orT S n r) 0 q := fun q hq => by rw [or1_b k2, hs_o (by decide), hs_o (by decide), hs_k hq]
        refine tl_iload rfl rfl ?_
        show jT _ _ 127 _ _ _ _
        refine tl_bipush rfl rfl ?_
        refine tl_icmp_ge (tgt := 165) rfl rfl ⟨by omega, by omega⟩ ⟨by omega, by omega⟩ (fun c3 => ?_) (fun c3 => ?_)
        · skip
          exfalso; omega
        · show jT _ _ 132 _ _ _ _
          refine tl_aload_n rfl rfl ?_
          refine tl_geti (c := 1) (k9 := 1) rfl rfl rfl ?_
          rw [k9.2.1]
          refine tl_bipush rfl rfl ?_
          refine tl_icmp_ge (tgt := 165) rfl rfl ⟨by omega, by omega⟩ ⟨by omega, by omega⟩ (fun c4 => ?_) (fun c4 => ?_)
          · skip
            exfalso; omega
          · show jT _ _ 141 _ _ _ _
            refine tl_aload_n rfl rfl ?_
            show jT _ _ 142 _ _ _ _
            refine tl_getr (c := 1) (k9 := 0) (b := 357) rfl rfl rfl rfl ?_
            refine tl_aload_n rfl rfl ?_
            refine tl_geti (c := 1) (k9 := 1) rfl rfl rfl ?_
            rw [k9.2.1]
            refine tl_iload rfl rfl ?_
            refine tl_iast (n := 100) rfl rfl rfl (by omega) (by omega) ?_
            refine tl_aload_n rfl rfl ?_
            refine tl_dup rfl rfl ?_
            show jT _ _ 154 _ _ _ _
            refine tl_geti (c := 1) (k9 := 1) rfl rfl rfl ?_
            rw [hs_o (by decide), k9.2.1]
            refine tl_iconst rfl ?_
            refine tl_iadd rfl ?_
            refine tl_puti (c := 1) (k9 := 1) rfl rfl rfl rfl ?_
            refine tl_goto (tgt := 180) rfl rfl ?_
            refine tl_aload_n rfl rfl ?_
            refine tl_aload_n rfl rfl ?_
            show jT _ _ 182 _ _ _ _
            refine tl_iload rfl rfl ?_
            refine tl_iload_n rfl rfl ?_
            refine tl_v3v (c9 := 1) (k_release l _ S n sb (kpm.of (fun x x1 x2 => by (repeat rw [hs_O (by omega)]))) k k1 ((orT S n r) 0) (or1 S n (orT S n r) 0) k3 (by rw [ek]; decide) eo (fun q hq => by (repeat rw [hs_o (by decide)]); exact (k9.1 q hq).2.2)) rfl rfl rfl rfl rfl (Nat.le_of_ble_eq_true rfl) (fun h9 p9 => ?_)
            obtain ⟨r1, r2, r3⟩ := p9
            refine tl_iinc rfl rfl rfl ?_
            refine tl_goto (tgt := 107) rfl rfl ?_
            show jT _ _ 107 _ _ _ _
            -- leaf 2 at 107
            refine ih (r + 1) h9 _ (by omega) ⟨by omega, ORK_b k9 k1 k3 oi2.1 k2 (fun q => ?_) ?_ r1 ⟨?_, ?_, ?_⟩ (fun i => ?_), fun x hx => ?_, fun q hq => ?_⟩
            · rw [r2 q, hs_o (by decide), hs_o (by decide)]
            · rw [r3 359 (by decide) (by decide), hs_O (by decide), hs_O (by decide)]
            · rw [r3 356 (by decide) (by decide), hs_s]
            · rw [r3 356 (by decide) (by decide), hs_k (by decide), hs_o (by decide)]
            · rw [r3 356 (by decide) (by decide), hs_k (by decide), hs_o (by decide)]
            · rw [r3 357 (by decide) (by decide), hs_o (by decide)]
              by_cases c : i = ((orT S n r) 2 0).toNat
              · rw [if_pos c, c, hs_s]
              · rw [if_neg c, hs_k c]
            · rw [r3 x (by omega) (by omega), hs_O (by omega), hs_O (by omega)]; exact fr.1 x hx
            · rw [r3 356 (by decide) (by decide), hs_k (by omega), hs_o (by decide)]; exact fr.2 q hq
theorem or_d0 {S : jH} {n : Nat} : ∀ k, sm (dpC (orT S n 0 0)) k = 0 ∧ sm (dpS S (orT S n 0 0)) k = 0 := by
  intro k
  induction k with
  | zero => exact ⟨rfl, rfl⟩
  | succ k ih =>
    have a : dpC (orT S n 0 0) k = 0 := by
      show (if (if 0 < S 2 k then (1 : Int) else 0) = 2 then (1 : Int) else 0) = 0
      split <;> omega
    have b : dpS S (orT S n 0 0) k = 0 := by
      show (if (if 0 < S 2 k then (1 : Int) else 0) = 2 then S 2 k else 0) = 0
      rw [if_neg (by split <;> omega)]
    show sm _ k + _ = 0 ∧ sm _ k + _ = 0
    rw [a, b]; omega
set_option maxRecDepth 20000 in
set_option maxHeartbeats 1000000 in
theorem k_findOrder (l : Launch) (h : jH) (S : jH) (n : Nat) (sb : SB9 S n) (hn : h 339 4 = (n : Int)) (kp : PTK h S n) : cV l 11 [.ref 356, .ref 339] h (fun h' => ORK h' S n (orT S n (orW S n).toNat) ∧ (∀ x, x < 356 ∨ 360 < x → h' x = h x) ∧ ∀ q, 4 ≤ q → h' 356 q = h 356 q) := by
  have n99 := sb.1
  have wb := orW_b (S := S) (n := n)
  have d1 := (or_d0 (S := S) (n := n) n).1
  have d2 := (or_d0 (S := S) (n := n) n).2
  refine cV.of rfl rfl ?_
  refine tl_aload_n rfl rfl ?_
  refine tl_geti (c := 6) (k9 := 4) rfl rfl rfl ?_
  rw [hn]
  refine tl_bipush rfl rfl ?_
  refine tl_s2i (c_min l h _ _ ⟨by omega, by omega⟩ ⟨by omega, by omega⟩) rfl rfl rfl (Nat.le_of_ble_eq_true rfl) (fun z1 h1 p1 => ?_)
  obtain ⟨q1, rfl⟩ := p1
  have q1 := q1.symm
  subst q1
  refine tl_istore_n rfl (Nat.le_of_ble_eq_true rfl) rfl ?_
  refine tl_aload_n rfl rfl ?_
  show jT _ _ 11 _ _ _ _
  refine tl_iconst rfl ?_
  refine tl_puti (c := 1) (k9 := 1) rfl rfl rfl rfl ?_
  refine tl_aload_n rfl rfl ?_
  refine tl_iconst rfl ?_
  refine tl_puti (c := 1) (k9 := 2) rfl rfl rfl rfl ?_
  refine tl_aload_n rfl rfl ?_
  refine tl_iconst rfl ?_
  show jT _ _ 22 _ _ _ _
  refine tl_puti (c := 1) (k9 := 3) rfl rfl rfl rfl ?_
  refine tl_iconst rfl ?_
  refine tl_istore_n rfl (Nat.le_of_ble_eq_true rfl) rfl ?_
  refine tl_iconst rfl ?_
  refine tl_istore rfl (Nat.le_of_ble_eq_true rfl) rfl ?_
  show jT _ _ 30 _ _ _ _
  -- leaf 0 at 30
  rw [show min (n : Int) 100 = (n : Int) by omega]
  refine k_fo9_A l _ S n sb (kp.of (fun x x1 x2 => by rw [hs_O (by omega), hs_O (by omega), hs_O (by omega)])) _ (fun mem hi => ?_) _ 0 _ (Nat.lt_succ_self _) ⟨Nat.zero_le _, fun q hq => absurd hq (by omega), fun _ _ _ _ => rfl⟩
  obtain ⟨i1, fr⟩ := hi
  refine tl_iconst rfl ?_
  refine tl_istore rfl (Nat.le_of_ble_eq_true rfl) rfl ?_
  show jT _ _ 107 _ _ _ _
  -- leaf 0 at 107
  refine k_fo9_B l h S n sb kp _ (fun mem2 hz => ⟨rfl, hz⟩) _ 0 mem _ (Nat.lt_succ_self _) ⟨by omega, ⟨i1, ?_, ?_, ?_, fun i hi => absurd hi (by show ¬ (i : Int) < 0; omega)⟩, fun x hx => ?_, fun q hq => ?_⟩
  · rw [fr 356 (by decide) (by decide) (by decide), hs_k (by decide), hs_k (by decide), hs_s]; rfl
  · rw [fr 356 (by decide) (by decide) (by decide), hs_k (by decide), hs_s]; exact d1.symm
  · rw [fr 356 (by decide) (by decide) (by decide), hs_s]; exact d2.symm
  · rw [fr x (by omega) (by omega) (by omega), hs_O (by omega), hs_O (by omega), hs_O (by omega)]
  · rw [fr 356 (by decide) (by decide) (by decide), hs_k (by omega), hs_k (by omega), hs_k (by omega)]
