/-! the order laid by the reference; order, dropped -/
set_option maxRecDepth 20000 in
set_option maxHeartbeats 1000000 in
theorem r_hu_lp (l : Launch) (h : jH) (S : jH) (n : Nat) (sb : SB9 S n) (kp : PTR h S n) (hn : h 388 38 = (n : Int)) (Q : jH) (r9 : Int) (oi : OI S n r9 Q) (k9 : ORR h n Q) (k : Nat) (hk9 : k < n) (hk2 : 0 < S 2 k) (P : Option Value → jH → Prop) (hP : P (some (.int (jI (if cnR S (Q 0) n k = 0 then (0 : Int) else 1)))) h) : ∀ (m : Nat) (o : Nat) (v : Int), n - o < m → (o ≤ n ∧ v = (if cnR S (Q 0) o k = 0 then (0 : Int) else 1)) → jT l 302 4 [some (.ref 388), some (.int (jI ((k : Int)))), some (.int (jI (v))), some (.int (jI ((o : Int))))] [] h P := by
  have n99 := sb.1
  have sk9 := sb.2 k hk9
  have ska := sk9.2.1
  have skb := sk9.2.2
  have kpk := kp k hk9
  intro m
  induction m with
  | zero => intro o v hk; omega
  | succ m ih =>
    intro o v hk hi
    obtain ⟨i0, i1⟩ := hi
    have kf : n ≤ o ∨ (o < n ∧ h 418 o = Q 0 o ∧ (Q 0 o = 0 ∨ Q 0 o = 1 ∨ Q 0 o = 2) ∧ (Q 0 o ≠ 0 → 0 < S 2 o) ∧ h 408 o = S 1 o ∧ h 409 o = S 2 o ∧ (0 ≤ S 1 o ∧ S 1 o ≤ 64) ∧ (0 ≤ S 2 o ∧ S 2 o ≤ 64)) := by
      by_cases c : o < n
      · have a := sb.2 o c
        exact Or.inr ⟨c, k9.1 o c, (oi.1 o c).1, (oi.1 o c).2, (kp o c).1, (kp o c).2.1, a.1, a.2.1⟩
      · exact Or.inl (by omega)
    have rd : rdr S (Q 0) k o = 1 ∧ o ≠ k ∧ Q 0 o = 1 ∧ S 4 k < S 1 o + S 2 o ∧ S 1 o < S 4 k + S 2 k ∨ rdr S (Q 0) k o = 0 ∧ (n ≤ o ∨ ¬ (o ≠ k ∧ Q 0 o = 1 ∧ S 4 k < S 1 o + S 2 o ∧ S 1 o < S 4 k + S 2 k)) := by
      by_cases c : o ≠ k ∧ spl S k o = true ∧ Q 0 o = 1
      · have d := spl_t.mp c.2.1
        exact Or.inl ⟨by unfold rdr; rw [if_pos c], c.1, c.2.2, d.2.2.1, d.2.2.2⟩
      · refine Or.inr ⟨by unfold rdr; rw [if_neg c], ?_⟩
        by_cases d : n ≤ o
        · exact Or.inl d
        · exact Or.inr (fun w => c ⟨w.1, spl_t.mpr ⟨hk2, (oi.1 o (by omega)).2 (by omega), w.2.2.1, w.2.2.2⟩, w.2.1⟩)
    have cs := cnR_s (S := S) (st := Q 0) (n := o) (i := k)
    have cb := cnR_b (S := S) (st := Q 0) (i := k) o
    have vb : v = 0 ∧ cnR S (Q 0) o k = 0 ∨ v = 1 ∧ cnR S (Q 0) o k ≠ 0 := by rw [i1]; split <;> omega
    refine tl_iload_n rfl rfl ?_
    refine tl_aload_n rfl rfl ?_
    refine tl_geti (c := 12) (k9 := 38) rfl rfl rfl ?_
    rw [hn]
    refine tl_icmp_ge (tgt := 87) rfl rfl ⟨by omega, by omega⟩ ⟨by omega, by omega⟩ (fun c1 => ?_) (fun c1 => ?_)
    · skip
      refine tl_iload_n rfl rfl ?_
      refine tl_iret rfl ?_
      -- leaf 0 at 88
      have e : o = n := by omega
      subst e
      rw [i1]
      first
        | exact ⟨by split <;> omega, hP⟩
        | exact hP
    · show jT _ _ 12 _ _ _ _
      show jT _ _ 12 _ _ _ _
      refine tl_iload_n rfl rfl ?_
      refine tl_if_ne (tgt := 75) rfl rfl ⟨by omega, by omega⟩ (fun c2 => ?_) (fun c2 => ?_)
      · skip
        refine tl_iconst rfl ?_
        refine tl_goto (tgt := 80) rfl rfl ?_
        refine tl_istore_n rfl (Nat.le_of_ble_eq_true rfl) rfl ?_
        refine tl_iinc rfl rfl rfl ?_
        refine tl_goto (tgt := 4) rfl rfl ?_
        show jT _ _ 4 _ _ _ _
        -- leaf 1 at 4
        refine ih (o + 1) _ (by omega) ⟨by omega, ?_⟩
        split <;> omega
      · show jT _ _ 16 _ _ _ _
        show jT _ _ 16 _ _ _ _
        refine tl_iload_n rfl rfl ?_
        refine tl_iload_n rfl rfl ?_
        refine tl_icmp_eq (tgt := 79) rfl rfl ⟨by omega, by omega⟩ ⟨by omega, by omega⟩ (fun c3 => ?_) (fun c3 => ?_)
        · skip
          refine tl_iconst rfl ?_
          refine tl_istore_n rfl (Nat.le_of_ble_eq_true rfl) rfl ?_
          refine tl_iinc rfl rfl rfl ?_
          refine tl_goto (tgt := 4) rfl rfl ?_
          show jT _ _ 4 _ _ _ _
          -- leaf 2 at 4
          refine ih (o + 1) _ (by omega) ⟨by omega, ?_⟩
          split <;> omega
        · show jT _ _ 21 _ _ _ _
          show jT _ _ 21 _ _ _ _
          refine tl_aload_n rfl rfl ?_
          refine tl_getr (c := 12) (k9 := 54) (b := 418) rfl rfl rfl rfl ?_
          refine tl_iload_n rfl rfl ?_
          refine tl_iald (n := 100) rfl rfl rfl (by omega) (by omega) ?_
          rw [Int.toNat_natCast, show h 418 o = Q 0 o by omega]
          refine tl_iconst rfl ?_
          refine tl_icmp_ne (tgt := 79) rfl rfl ⟨by omega, by omega⟩ ⟨by omega, by omega⟩ (fun c4 => ?_) (fun c4 => ?_)
          · skip
            refine tl_iconst rfl ?_
            show jT _ _ 80 _ _ _ _
            refine tl_istore_n rfl (Nat.le_of_ble_eq_true rfl) rfl ?_
            refine tl_iinc rfl rfl rfl ?_
            refine tl_goto (tgt := 4) rfl rfl ?_
            show jT _ _ 4 _ _ _ _
            -- leaf 3 at 4
            refine ih (o + 1) _ (by omega) ⟨by omega, ?_⟩
            split <;> omega
          · show jT _ _ 31 _ _ _ _
            refine tl_aload_n rfl rfl ?_
            refine tl_getr (c := 12) (k9 := 42) (b := 411) rfl rfl rfl rfl ?_
            refine tl_iload_n rfl rfl ?_
            refine tl_iald (n := 100) rfl rfl rfl (by omega) (by omega) ?_
            rw [Int.toNat_natCast, kpk.2.2.2]
            show jT _ _ 37 _ _ _ _
            refine tl_aload_n rfl rfl ?_
            refine tl_getr (c := 12) (k9 := 39) (b := 408) rfl rfl rfl rfl ?_
            refine tl_iload_n rfl rfl ?_
            refine tl_iald (n := 100) rfl rfl rfl (by omega) (by omega) ?_
            rw [Int.toNat_natCast, show h 408 o = S 1 o by omega]
            refine tl_aload_n rfl rfl ?_
            refine tl_getr (c := 12) (k9 := 40) (b := 409) rfl rfl rfl rfl ?_
            refine tl_iload_n rfl rfl ?_
            show jT _ _ 48 _ _ _ _
            refine tl_iald (n := 100) rfl rfl rfl (by omega) (by omega) ?_
            rw [Int.toNat_natCast, show h 409 o = S 2 o by omega]
            refine tl_iadd rfl ?_
            refine tl_icmp_ge (tgt := 79) rfl rfl ⟨by omega, by omega⟩ ⟨by omega, by omega⟩ (fun c5 => ?_) (fun c5 => ?_)
            · skip
              refine tl_iconst rfl ?_
              refine tl_istore_n rfl (Nat.le_of_ble_eq_true rfl) rfl ?_
              refine tl_iinc rfl rfl rfl ?_
              refine tl_goto (tgt := 4) rfl rfl ?_
              show jT _ _ 4 _ _ _ _
              -- leaf 4 at 4
              refine ih (o + 1) _ (by omega) ⟨by omega, ?_⟩
              split <;> omega
            · show jT _ _ 53 _ _ _ _
              show jT _ _ 53 _ _ _ _
              refine tl_aload_n rfl rfl ?_
              refine tl_getr (c := 12) (k9 := 39) (b := 408) rfl rfl rfl rfl ?_
              refine tl_iload_n rfl rfl ?_
              refine tl_iald (n := 100) rfl rfl rfl (by omega) (by omega) ?_
              rw [Int.toNat_natCast, show h 408 o = S 1 o by omega]
              refine tl_aload_n rfl rfl ?_
              refine tl_getr (c := 12) (k9 := 42) (b := 411) rfl rfl rfl rfl ?_
              refine tl_iload_n rfl rfl ?_
              show jT _ _ 64 _ _ _ _
              refine tl_iald (n := 100) rfl rfl rfl (by omega) (by omega) ?_
              rw [Int.toNat_natCast, kpk.2.2.2]
              refine tl_aload_n rfl rfl ?_
              refine tl_getr (c := 12) (k9 := 40) (b := 409) rfl rfl rfl rfl ?_
              refine tl_iload_n rfl rfl ?_
              refine tl_iald (n := 100) rfl rfl rfl (by omega) (by omega) ?_
              rw [Int.toNat_natCast, kpk.2.1]
              refine tl_iadd rfl ?_
              refine tl_icmp_ge (tgt := 79) rfl rfl ⟨by omega, by omega⟩ ⟨by omega, by omega⟩ (fun c6 => ?_) (fun c6 => ?_)
              · skip
                show jT _ _ 79 _ _ _ _
                refine tl_iconst rfl ?_
                refine tl_istore_n rfl (Nat.le_of_ble_eq_true rfl) rfl ?_
                refine tl_iinc rfl rfl rfl ?_
                refine tl_goto (tgt := 4) rfl rfl ?_
                show jT _ _ 4 _ _ _ _
                -- leaf 5 at 4
                refine ih (o + 1) _ (by omega) ⟨by omega, ?_⟩
                split <;> omega
              · show jT _ _ 75 _ _ _ _
                refine tl_iconst rfl ?_
                refine tl_goto (tgt := 80) rfl rfl ?_
                refine tl_istore_n rfl (Nat.le_of_ble_eq_true rfl) rfl ?_
                show jT _ _ 81 _ _ _ _
                refine tl_iinc rfl rfl rfl ?_
                refine tl_goto (tgt := 4) rfl rfl ?_
                show jT _ _ 4 _ _ _ _
                -- leaf 6 at 4
                refine ih (o + 1) _ (by omega) ⟨by omega, ?_⟩
                split <;> omega
set_option maxRecDepth 20000 in
set_option maxHeartbeats 1000000 in
theorem r_hurts (l : Launch) (h : jH) (S : jH) (n : Nat) (sb : SB9 S n) (kp : PTR h S n) (hn : h 388 38 = (n : Int)) (Q : jH) (r9 : Int) (oi : OI S n r9 Q) (k9 : ORR h n Q) (k : Nat) (hk9 : k < n) (hk2 : 0 < S 2 k) : cI l 302 [.ref 388, .int (jI (k : Int))] h (fun z h' => h' = h ∧ z = if cnR S (Q 0) n k = 0 then (0 : Int) else 1) := by
  refine cI.ofZ rfl rfl ?_
  refine tl_iconst rfl ?_
  refine tl_istore_n rfl (Nat.le_of_ble_eq_true rfl) rfl ?_
  refine tl_iconst rfl ?_
  refine tl_istore_n rfl (Nat.le_of_ble_eq_true rfl) rfl ?_
  show jT _ _ 4 _ _ _ _
  -- leaf 0 at 4
  exact r_hu_lp l h S n sb kp hn Q r9 oi k9 k hk9 hk2 _ ⟨_, rfl, by split <;> omega, rfl, rfl⟩ _ 0 0 (Nat.lt_succ_self _) ⟨Nat.zero_le _, by show (0 : Int) = (if (0 : Int) = 0 then (0 : Int) else 1); rw [if_pos rfl]⟩
set_option maxRecDepth 20000 in
set_option maxHeartbeats 1000000 in
theorem r_lo9_A (l : Launch) (h : jH) (S : jH) (n : Nat) (sb : SB9 S n) (kp : PTR h S n) (hn : h 388 38 = (n : Int)) (P : Option Value → jH → Prop) (hx : ∀ mem, ((∀ q, q < n → mem 418 q = (orT S n 0 0) q) ∧ ∀ x, x ≠ 418 → mem x = h x) → jT l 303 60 [some (.ref 388), some (.int (jI (orW S n))), some (.int (jI ((n : Int)))), none, none] [] mem P) : ∀ (m : Nat) (i : Nat) (mem : jH), n - i < m → (i ≤ n ∧ (∀ q, q < i → mem 418 q = (orT S n 0 0) q) ∧ ∀ x, x ≠ 418 → mem x = h x) → jT l 303 9 [some (.ref 388), some (.int (jI (sm (lf (orT S n 0 0)) i))), some (.int (jI ((i : Int)))), none, none] [] mem P := by
  have n99 := sb.1
  intro m
  induction m with
  | zero => intro i mem hk; omega
  | succ m ih =>
    intro i mem hk hi
    obtain ⟨i0, i1, fr⟩ := hi
    have kpm : PTR mem S n := kp.of (fun x x1 x2 => fr x (by omega))
    have sq : sm (lf (orT S n 0 0)) (i + 1) = sm (lf (orT S n 0 0)) i + lf (orT S n 0 0) i := rfl
    have sB := sm_b (f := lf (orT S n 0 0)) i (fun k _ => lf_b)
    have ei : n ≤ i ∨ (i < n ∧ mem 409 i = S 2 i ∧ 0 ≤ S 2 i ∧ S 2 i ≤ 64) := by
      by_cases c : i < n
      · have a := sb.2 i c
        exact Or.inr ⟨c, (kpm i c).2.1, a.2.1.1, a.2.1.2⟩
      · exact Or.inl (by omega)
    refine tl_iload_n rfl rfl ?_
    refine tl_aload_n rfl rfl ?_
    refine tl_geti (c := 12) (k9 := 38) rfl rfl rfl ?_
    rw [fr 388 (by decide), hn]
    refine tl_icmp_ge (tgt := 60) rfl rfl ⟨by omega, by omega⟩ ⟨by omega, by omega⟩ (fun c1 => ?_) (fun c1 => ?_)
    · skip
      show jT _ _ 60 _ _ _ _
      -- leaf 0 at 60
      have e : i = n := by omega
      subst e
      exact hx mem ⟨i1, fr⟩
    · show jT _ _ 17 _ _ _ _
      refine tl_aload_n rfl rfl ?_
      refine tl_getr (c := 12) (k9 := 54) (b := 418) rfl rfl rfl rfl ?_
      show jT _ _ 21 _ _ _ _
      refine tl_iload_n rfl rfl ?_
      refine tl_aload_n rfl rfl ?_
      refine tl_getr (c := 12) (k9 := 40) (b := 409) rfl rfl rfl rfl ?_
      refine tl_iload_n rfl rfl ?_
      refine tl_iald (n := 100) rfl rfl rfl (by omega) (by omega) ?_
      rw [Int.toNat_natCast, show mem 409 i = S 2 i by omega]
      refine tl_if_le (tgt := 35) rfl rfl ⟨by omega, by omega⟩ (fun c2 => ?_) (fun c2 => ?_)
      · skip
        refine tl_iconst rfl ?_
        show jT _ _ 36 _ _ _ _
        refine tl_iast (n := 100) rfl rfl rfl (by omega) (by omega) ?_
        rw [Int.toNat_natCast]
        refine tl_iload_n rfl rfl ?_
        refine tl_aload_n rfl rfl ?_
        refine tl_getr (c := 12) (k9 := 40) (b := 409) rfl rfl rfl rfl ?_
        refine tl_iload_n rfl rfl ?_
        refine tl_iald (n := 100) rfl rfl rfl (by omega) (by omega) ?_
        rw [Int.toNat_natCast, hs_o (by decide), show mem 409 i = S 2 i by omega]
        refine tl_if_le (tgt := 51) rfl rfl ⟨by omega, by omega⟩ (fun c3 => ?_) (fun c3 => ?_)
        · skip
          show jT _ _ 51 _ _ _ _
          refine tl_iconst rfl ?_
          refine tl_iadd rfl ?_
          refine tl_istore_n rfl (Nat.le_of_ble_eq_true rfl) rfl ?_
          refine tl_iinc rfl rfl rfl ?_
          refine tl_goto (tgt := 9) rfl rfl ?_
          show jT _ _ 9 _ _ _ _
          -- leaf 1 at 9
          have s0 : (orT S n 0 0) i = 0 := by
            show (if 0 < S 2 i then (1 : Int) else 0) = 0
            rw [if_neg (by omega)]
          have l1 : lf (orT S n 0 0) i = 0 := lf_0 (by omega)
          rw [l1] at sq
          refine jT.loc ?_ (ih (i + 1) (hs mem 418 i 0) (by omega) ⟨by omega, fun q hq => ?_, fun x x1 => by rw [hs_O x1]; exact fr x x1⟩)
          · rw [sq, show ((i + 1 : Nat) : Int) = (i : Int) + 1 by omega]; rfl
          · by_cases c : q = i
            · subst c; rw [hs_s, s0]
            · rw [hs_k c]; exact i1 q (by omega)
        · show jT _ _ 47 _ _ _ _
          refine tl_iconst rfl ?_
          refine tl_goto (tgt := 52) rfl rfl ?_
          show jT _ _ 52 _ _ _ _
          refine tl_iadd rfl ?_
          refine tl_istore_n rfl (Nat.le_of_ble_eq_true rfl) rfl ?_
          refine tl_iinc rfl rfl rfl ?_
          refine tl_goto (tgt := 9) rfl rfl ?_
          show jT _ _ 9 _ _ _ _
          -- leaf 2 at 9
          exfalso; omega
      · show jT _ _ 31 _ _ _ _
        refine tl_iconst rfl ?_
        refine tl_goto (tgt := 36) rfl rfl ?_
        refine tl_iast (n := 100) rfl rfl rfl (by omega) (by omega) ?_
        rw [Int.toNat_natCast]
        show jT _ _ 37 _ _ _ _
        refine tl_iload_n rfl rfl ?_
        refine tl_aload_n rfl rfl ?_
        refine tl_getr (c := 12) (k9 := 40) (b := 409) rfl rfl rfl rfl ?_
        refine tl_iload_n rfl rfl ?_
        refine tl_iald (n := 100) rfl rfl rfl (by omega) (by omega) ?_
        rw [Int.toNat_natCast, hs_o (by decide), show mem 409 i = S 2 i by omega]
        refine tl_if_le (tgt := 51) rfl rfl ⟨by omega, by omega⟩ (fun c4 => ?_) (fun c4 => ?_)
        · skip
          refine tl_iconst rfl ?_
          show jT _ _ 52 _ _ _ _
          refine tl_iadd rfl ?_
          refine tl_istore_n rfl (Nat.le_of_ble_eq_true rfl) rfl ?_
          refine tl_iinc rfl rfl rfl ?_
          refine tl_goto (tgt := 9) rfl rfl ?_
          show jT _ _ 9 _ _ _ _
          -- leaf 3 at 9
          exfalso; omega
        · show jT _ _ 47 _ _ _ _
          refine tl_iconst rfl ?_
          refine tl_goto (tgt := 52) rfl rfl ?_
          refine tl_iadd rfl ?_
          show jT _ _ 53 _ _ _ _
          refine tl_istore_n rfl (Nat.le_of_ble_eq_true rfl) rfl ?_
          refine tl_iinc rfl rfl rfl ?_
          refine tl_goto (tgt := 9) rfl rfl ?_
          show jT _ _ 9 _ _ _ _
          -- leaf 4 at 9
          have s0 : (orT S n 0 0) i = 1 := by
            show (if 0 < S 2 i then (1 : Int) else 0) = 1
            rw [if_pos (by omega)]
          have l1 : lf (orT S n 0 0) i = 1 := lf_1 s0
          rw [l1] at sq
          refine jT.loc ?_ (ih (i + 1) (hs mem 418 i 1) (by omega) ⟨by omega, fun q hq => ?_, fun x x1 => by rw [hs_O x1]; exact fr x x1⟩)
          · rw [sq, show ((i + 1 : Nat) : Int) = (i : Int) + 1 by omega]; rfl
          · by_cases c : q = i
            · subst c; rw [hs_s, s0]
            · rw [hs_k c]; exact i1 q (by omega)
set_option maxRecDepth 20000 in
set_option maxHeartbeats 1000000 in
theorem r_lo9_B (l : Launch) (mem : jH) (S : jH) (n : Nat) (sb : SB9 S n) (kp : PTR mem S n) (hn : mem 388 38 = (n : Int)) (Q : jH) (r9 lft : Int) (oi : OI S n r9 Q) (k9 : ORR mem n Q) (P : Option Value → jH → Prop) (hx : jT l 303 142 [some (.ref 388), some (.int (jI (lft))), some (.int (jI (orI S n Q))), some (.int (jI (orM S n Q))), some (.int (jI (-1)))] [] mem P) : ∀ (m : Nat) (d : Nat), n - d < m → d ≤ n → jT l 303 76 [some (.ref 388), some (.int (jI (lft))), some (.int (jI (itd (frP S (Q 0) n) n d))), some (.int (jI (smd S (Q 0) n d))), some (.int (jI ((n : Int) - 1 - (d : Int))))] [] mem P := by
  have n99 := sb.1
  intro m
  induction m with
  | zero => intro d hk; omega
  | succ m ih =>
    intro d hk hi
    have i0 := hi
    have kf : n ≤ d ∨ (d < n ∧ mem 418 (n - 1 - d) = Q 0 (n - 1 - d) ∧ (Q 0 (n - 1 - d) = 0 ∨ Q 0 (n - 1 - d) = 1 ∨ Q 0 (n - 1 - d) = 2) ∧ (Q 0 (n - 1 - d) ≠ 0 → 0 < S 2 (n - 1 - d)) ∧ mem 409 (n - 1 - d) = S 2 (n - 1 - d) ∧ (0 ≤ S 2 (n - 1 - d) ∧ S 2 (n - 1 - d) ≤ 64)) := by
      by_cases c : d < n
      · exact Or.inr ⟨c, k9.1 _ (by omega), (oi.1 _ (by omega)).1, (oi.1 _ (by omega)).2, (kp _ (by omega)).2.1, (sb.2 _ (by omega)).2.1⟩
      · exact Or.inl (by omega)
    have ib : -1 ≤ itd (frP S (Q 0) n) n d ∧ itd (frP S (Q 0) n) n d ≤ n := by rcases itd_s (P := frP S (Q 0) n) d i0 with ⟨a, _⟩ | ⟨k, _, b, e, _⟩ <;> omega
    have sB : smd S (Q 0) n d = -1 ∨ (0 ≤ smd S (Q 0) n d ∧ smd S (Q 0) n d < n ∧ mem 409 (smd S (Q 0) n d).toNat = S 2 (smd S (Q 0) n d).toNat ∧ 0 ≤ S 2 (smd S (Q 0) n d).toNat ∧ S 2 (smd S (Q 0) n d).toNat ≤ 64) := by
      rcases smd_s (S := S) (st := Q 0) (n := n) d i0 with ⟨a, _⟩ | ⟨k, _, b, e, _⟩
      · exact Or.inl a
      · have b2 := (sb.2 k b).2.1
        refine Or.inr ⟨by omega, by omega, ?_, ?_, ?_⟩
        · rw [e, Int.toNat_natCast]; exact (kp k b).2.1
        · rw [e, Int.toNat_natCast]; exact b2.1
        · rw [e, Int.toNat_natCast]; exact b2.2
    have pcast : ((n : Int) - 1 - (d : Int)).toNat = n - 1 - d := by omega
    refine tl_iload rfl rfl ?_
    refine tl_if_lt (tgt := 142) rfl rfl ⟨by omega, by omega⟩ (fun c1 => ?_) (fun c1 => ?_)
    · skip
      show jT _ _ 142 _ _ _ _
      -- leaf 0 at 142
      have e : d = n := by omega
      subst e
      refine jT.loc ?_ hx
      rw [show (d : Int) - 1 - (d : Int) = -1 by omega]; rfl
    · show jT _ _ 81 _ _ _ _
      refine tl_aload_n rfl rfl ?_
      refine tl_getr (c := 12) (k9 := 54) (b := 418) rfl rfl rfl rfl ?_
      refine tl_iload rfl rfl ?_
      refine tl_iald (n := 100) rfl rfl rfl (by omega) (by omega) ?_
      rw [pcast, show mem 418 (n - 1 - d) = Q 0 (n - 1 - d) by omega]
      show jT _ _ 88 _ _ _ _
      refine tl_iconst rfl ?_
      refine tl_icmp_ne (tgt := 136) rfl rfl ⟨by omega, by omega⟩ ⟨by omega, by omega⟩ (fun c2 => ?_) (fun c2 => ?_)
      · skip
        refine tl_iinc rfl rfl rfl ?_
        refine tl_goto (tgt := 76) rfl rfl ?_
        show jT _ _ 76 _ _ _ _
        -- leaf 1 at 76
        refine jT.loc ?_ (ih (d + 1) (by omega) (by omega))
        have e1 : (itd (frP S (Q 0) n) n (d + 1) = itd (frP S (Q 0) n) n d ∧ ¬ (Q 0 (n - 1 - d) = 1 ∧ cnR S (Q 0) n (n - 1 - d) = 0)) ∨ (itd (frP S (Q 0) n) n (d + 1) = ((n - 1 - d : Nat) : Int) ∧ Q 0 (n - 1 - d) = 1 ∧ cnR S (Q 0) n (n - 1 - d) = 0) := by
          rw [itd]
          by_cases c : Q 0 (n - 1 - d) = 1 ∧ cnR S (Q 0) n (n - 1 - d) = 0
          · rw [if_pos (frP_t.mpr c)]; exact Or.inr ⟨rfl, c⟩
          · rw [if_neg (fun w => c (frP_t.mp w))]; exact Or.inl ⟨rfl, c⟩
        have e2 : (smd S (Q 0) n (d + 1) = smd S (Q 0) n d ∧ ¬ (Q 0 (n - 1 - d) = 1 ∧ (smd S (Q 0) n d = -1 ∨ S 2 (n - 1 - d) ≤ S 2 (smd S (Q 0) n d).toNat))) ∨ (smd S (Q 0) n (d + 1) = ((n - 1 - d : Nat) : Int) ∧ Q 0 (n - 1 - d) = 1 ∧ (smd S (Q 0) n d = -1 ∨ S 2 (n - 1 - d) ≤ S 2 (smd S (Q 0) n d).toNat)) := by
          rw [smd]
          by_cases c : Q 0 (n - 1 - d) = 1 ∧ (smd S (Q 0) n d = -1 ∨ S 2 (n - 1 - d) ≤ S 2 (smd S (Q 0) n d).toNat)
          · rw [if_pos c]; exact Or.inr ⟨rfl, c⟩
          · rw [if_neg c]; exact Or.inl ⟨rfl, c⟩
        rcases e1 with ⟨e1, e1b⟩ | ⟨e1, e1b⟩ <;> rcases e2 with ⟨e2, e2b⟩ | ⟨e2, e2b⟩ <;> first | (exfalso; omega) | (rw [e1, e2, show (n : Int) - 1 - ((d + 1 : Nat) : Int) = (n : Int) - 1 - (d : Int) + -1 by omega]; rfl) | (rw [e1, e2, show (n : Int) - 1 - ((d + 1 : Nat) : Int) = ((n - 1 - d : Nat) : Int) + -1 by omega]; rfl)
      · show jT _ _ 92 _ _ _ _
        have q1 : Q 0 (n - 1 - d) = 1 := by omega
        rw [show (n : Int) - 1 - (d : Int) = ((n - 1 - d : Nat) : Int) by omega]
        have cb := cnR_b (S := S) (st := Q 0) (i := n - 1 - d) n
        refine tl_aload_n rfl rfl ?_
        refine tl_iload rfl rfl ?_
        refine tl_v1i (c9 := 12) (r_hurts l mem S n sb kp hn Q r9 oi k9 (n - 1 - d) (by omega) (by omega)) rfl rfl rfl rfl rfl (Nat.le_of_ble_eq_true rfl) (fun z1 h1 p1 => ?_)
        obtain ⟨q1x, p1⟩ := p1
        have q1x := q1x.symm
        subst q1x
        have zc : z1 = 0 ∧ cnR S (Q 0) n (n - 1 - d) = 0 ∨ z1 = 1 ∧ cnR S (Q 0) n (n - 1 - d) ≠ 0 := by rw [p1]; split <;> omega
        show jT _ _ 98 _ _ _ _
        refine tl_if_eq (tgt := 105) rfl rfl ⟨by omega, by omega⟩ (fun c3 => ?_) (fun c3 => ?_)
        · skip
          refine tl_iload rfl rfl ?_
          refine tl_istore_n rfl (Nat.le_of_ble_eq_true rfl) rfl ?_
          refine tl_iload_n rfl rfl ?_
          refine tl_iconst rfl ?_
          refine tl_icmp_eq (tgt := 129) rfl rfl ⟨by omega, by omega⟩ ⟨by omega, by omega⟩ (fun c4 => ?_) (fun c4 => ?_)
          · skip
            refine tl_iload rfl rfl ?_
            show jT _ _ 131 _ _ _ _
            refine tl_goto (tgt := 135) rfl rfl ?_
            refine tl_istore_n rfl (Nat.le_of_ble_eq_true rfl) rfl ?_
            refine tl_iinc rfl rfl rfl ?_
            refine tl_goto (tgt := 76) rfl rfl ?_
            show jT _ _ 76 _ _ _ _
            -- leaf 2 at 76
            refine jT.loc ?_ (ih (d + 1) (by omega) (by omega))
            have e1 : (itd (frP S (Q 0) n) n (d + 1) = itd (frP S (Q 0) n) n d ∧ ¬ (Q 0 (n - 1 - d) = 1 ∧ cnR S (Q 0) n (n - 1 - d) = 0)) ∨ (itd (frP S (Q 0) n) n (d + 1) = ((n - 1 - d : Nat) : Int) ∧ Q 0 (n - 1 - d) = 1 ∧ cnR S (Q 0) n (n - 1 - d) = 0) := by
              rw [itd]
              by_cases c : Q 0 (n - 1 - d) = 1 ∧ cnR S (Q 0) n (n - 1 - d) = 0
              · rw [if_pos (frP_t.mpr c)]; exact Or.inr ⟨rfl, c⟩
              · rw [if_neg (fun w => c (frP_t.mp w))]; exact Or.inl ⟨rfl, c⟩
            have e2 : (smd S (Q 0) n (d + 1) = smd S (Q 0) n d ∧ ¬ (Q 0 (n - 1 - d) = 1 ∧ (smd S (Q 0) n d = -1 ∨ S 2 (n - 1 - d) ≤ S 2 (smd S (Q 0) n d).toNat))) ∨ (smd S (Q 0) n (d + 1) = ((n - 1 - d : Nat) : Int) ∧ Q 0 (n - 1 - d) = 1 ∧ (smd S (Q 0) n d = -1 ∨ S 2 (n - 1 - d) ≤ S 2 (smd S (Q 0) n d).toNat)) := by
              rw [smd]
              by_cases c : Q 0 (n - 1 - d) = 1 ∧ (smd S (Q 0) n d = -1 ∨ S 2 (n - 1 - d) ≤ S 2 (smd S (Q 0) n d).toNat)
              · rw [if_pos c]; exact Or.inr ⟨rfl, c⟩
              · rw [if_neg c]; exact Or.inl ⟨rfl, c⟩
            rcases e1 with ⟨e1, e1b⟩ | ⟨e1, e1b⟩ <;> rcases e2 with ⟨e2, e2b⟩ | ⟨e2, e2b⟩ <;> first | (exfalso; omega) | (rw [e1, e2, show (n : Int) - 1 - ((d + 1 : Nat) : Int) = (n : Int) - 1 - (d : Int) + -1 by omega]; rfl) | (rw [e1, e2, show (n : Int) - 1 - ((d + 1 : Nat) : Int) = ((n - 1 - d : Nat) : Int) + -1 by omega]; rfl)
          · show jT _ _ 113 _ _ _ _
            refine tl_aload_n rfl rfl ?_
            refine tl_getr (c := 12) (k9 := 40) (b := 409) rfl rfl rfl rfl ?_
            refine tl_iload rfl rfl ?_
            show jT _ _ 119 _ _ _ _
            refine tl_iald (n := 100) rfl rfl rfl (by omega) (by omega) ?_
            rw [Int.toNat_natCast, show mem 409 (n - 1 - d) = S 2 (n - 1 - d) by omega]
            refine tl_aload_n rfl rfl ?_
            refine tl_getr (c := 12) (k9 := 40) (b := 409) rfl rfl rfl rfl ?_
            refine tl_iload_n rfl rfl ?_
            refine tl_iald (n := 100) rfl rfl rfl (by omega) (by omega) ?_
            rw [show mem 409 (smd S (Q 0) n d).toNat = S 2 (smd S (Q 0) n d).toNat by omega]
            refine tl_icmp_gt (tgt := 134) rfl rfl ⟨by omega, by omega⟩ ⟨by omega, by omega⟩ (fun c5 => ?_) (fun c5 => ?_)
            · skip
              refine tl_iload_n rfl rfl ?_
              show jT _ _ 135 _ _ _ _
              refine tl_istore_n rfl (Nat.le_of_ble_eq_true rfl) rfl ?_
              refine tl_iinc rfl rfl rfl ?_
              refine tl_goto (tgt := 76) rfl rfl ?_
              show jT _ _ 76 _ _ _ _
              -- leaf 3 at 76
              refine jT.loc ?_ (ih (d + 1) (by omega) (by omega))
              have e1 : (itd (frP S (Q 0) n) n (d + 1) = itd (frP S (Q 0) n) n d ∧ ¬ (Q 0 (n - 1 - d) = 1 ∧ cnR S (Q 0) n (n - 1 - d) = 0)) ∨ (itd (frP S (Q 0) n) n (d + 1) = ((n - 1 - d : Nat) : Int) ∧ Q 0 (n - 1 - d) = 1 ∧ cnR S (Q 0) n (n - 1 - d) = 0) := by
                rw [itd]
                by_cases c : Q 0 (n - 1 - d) = 1 ∧ cnR S (Q 0) n (n - 1 - d) = 0
                · rw [if_pos (frP_t.mpr c)]; exact Or.inr ⟨rfl, c⟩
                · rw [if_neg (fun w => c (frP_t.mp w))]; exact Or.inl ⟨rfl, c⟩
              have e2 : (smd S (Q 0) n (d + 1) = smd S (Q 0) n d ∧ ¬ (Q 0 (n - 1 - d) = 1 ∧ (smd S (Q 0) n d = -1 ∨ S 2 (n - 1 - d) ≤ S 2 (smd S (Q 0) n d).toNat))) ∨ (smd S (Q 0) n (d + 1) = ((n - 1 - d : Nat) : Int) ∧ Q 0 (n - 1 - d) = 1 ∧ (smd S (Q 0) n d = -1 ∨ S 2 (n - 1 - d) ≤ S 2 (smd S (Q 0) n d).toNat)) := by
                rw [smd]
                by_cases c : Q 0 (n - 1 - d) = 1 ∧ (smd S (Q 0) n d = -1 ∨ S 2 (n - 1 - d) ≤ S 2 (smd S (Q 0) n d).toNat)
                · rw [if_pos c]; exact Or.inr ⟨rfl, c⟩
                · rw [if_neg c]; exact Or.inl ⟨rfl, c⟩
              rcases e1 with ⟨e1, e1b⟩ | ⟨e1, e1b⟩ <;> rcases e2 with ⟨e2, e2b⟩ | ⟨e2, e2b⟩ <;> first | (exfalso; omega) | (rw [e1, e2, show (n : Int) - 1 - ((d + 1 : Nat) : Int) = (n : Int) - 1 - (d : Int) + -1 by omega]; rfl) | (rw [e1, e2, show (n : Int) - 1 - ((d + 1 : Nat) : Int) = ((n - 1 - d : Nat) : Int) + -1 by omega]; rfl)
            · show jT _ _ 129 _ _ _ _
              refine tl_iload rfl rfl ?_
              refine tl_goto (tgt := 135) rfl rfl ?_
              refine tl_istore_n rfl (Nat.le_of_ble_eq_true rfl) rfl ?_
              refine tl_iinc rfl rfl rfl ?_
              show jT _ _ 139 _ _ _ _
              refine tl_goto (tgt := 76) rfl rfl ?_
              show jT _ _ 76 _ _ _ _
              -- leaf 4 at 76
              refine jT.loc ?_ (ih (d + 1) (by omega) (by omega))
              have e1 : (itd (frP S (Q 0) n) n (d + 1) = itd (frP S (Q 0) n) n d ∧ ¬ (Q 0 (n - 1 - d) = 1 ∧ cnR S (Q 0) n (n - 1 - d) = 0)) ∨ (itd (frP S (Q 0) n) n (d + 1) = ((n - 1 - d : Nat) : Int) ∧ Q 0 (n - 1 - d) = 1 ∧ cnR S (Q 0) n (n - 1 - d) = 0) := by
                rw [itd]
                by_cases c : Q 0 (n - 1 - d) = 1 ∧ cnR S (Q 0) n (n - 1 - d) = 0
                · rw [if_pos (frP_t.mpr c)]; exact Or.inr ⟨rfl, c⟩
                · rw [if_neg (fun w => c (frP_t.mp w))]; exact Or.inl ⟨rfl, c⟩
              have e2 : (smd S (Q 0) n (d + 1) = smd S (Q 0) n d ∧ ¬ (Q 0 (n - 1 - d) = 1 ∧ (smd S (Q 0) n d = -1 ∨ S 2 (n - 1 - d) ≤ S 2 (smd S (Q 0) n d).toNat))) ∨ (smd S (Q 0) n (d + 1) = ((n - 1 - d : Nat) : Int) ∧ Q 0 (n - 1 - d) = 1 ∧ (smd S (Q 0) n d = -1 ∨ S 2 (n - 1 - d) ≤ S 2 (smd S (Q 0) n d).toNat)) := by
                rw [smd]
                by_cases c : Q 0 (n - 1 - d) = 1 ∧ (smd S (Q 0) n d = -1 ∨ S 2 (n - 1 - d) ≤ S 2 (smd S (Q 0) n d).toNat)
                · rw [if_pos c]; exact Or.inr ⟨rfl, c⟩
                · rw [if_neg c]; exact Or.inl ⟨rfl, c⟩
              rcases e1 with ⟨e1, e1b⟩ | ⟨e1, e1b⟩ <;> rcases e2 with ⟨e2, e2b⟩ | ⟨e2, e2b⟩ <;> first | (exfalso; omega) | (rw [e1, e2, show (n : Int) - 1 - ((d + 1 : Nat) : Int) = (n : Int) - 1 - (d : Int) + -1 by omega]; rfl) | (rw [e1, e2, show (n : Int) - 1 - ((d + 1 : Nat) : Int) = ((n - 1 - d : Nat) : Int) + -1 by omega]; rfl)
        · show jT _ _ 101 _ _ _ _
          refine tl_iload_n rfl rfl ?_
          refine tl_goto (tgt := 107) rfl rfl ?_
          refine tl_istore_n rfl (Nat.le_of_ble_eq_true rfl) rfl ?_
          refine tl_iload_n rfl rfl ?_
          refine tl_iconst rfl ?_
          refine tl_icmp_eq (tgt := 129) rfl rfl ⟨by omega, by omega⟩ ⟨by omega, by omega⟩ (fun c6 => ?_) (fun c6 => ?_)
          · skip
            show jT _ _ 129 _ _ _ _
            refine tl_iload rfl rfl ?_
            refine tl_goto (tgt := 135) rfl rfl ?_
            refine tl_istore_n rfl (Nat.le_of_ble_eq_true rfl) rfl ?_
            refine tl_iinc rfl rfl rfl ?_
            refine tl_goto (tgt := 76) rfl rfl ?_
            show jT _ _ 76 _ _ _ _
            -- leaf 5 at 76
            refine jT.loc ?_ (ih (d + 1) (by omega) (by omega))
            have e1 : (itd (frP S (Q 0) n) n (d + 1) = itd (frP S (Q 0) n) n d ∧ ¬ (Q 0 (n - 1 - d) = 1 ∧ cnR S (Q 0) n (n - 1 - d) = 0)) ∨ (itd (frP S (Q 0) n) n (d + 1) = ((n - 1 - d : Nat) : Int) ∧ Q 0 (n - 1 - d) = 1 ∧ cnR S (Q 0) n (n - 1 - d) = 0) := by
              rw [itd]
              by_cases c : Q 0 (n - 1 - d) = 1 ∧ cnR S (Q 0) n (n - 1 - d) = 0
              · rw [if_pos (frP_t.mpr c)]; exact Or.inr ⟨rfl, c⟩
              · rw [if_neg (fun w => c (frP_t.mp w))]; exact Or.inl ⟨rfl, c⟩
            have e2 : (smd S (Q 0) n (d + 1) = smd S (Q 0) n d ∧ ¬ (Q 0 (n - 1 - d) = 1 ∧ (smd S (Q 0) n d = -1 ∨ S 2 (n - 1 - d) ≤ S 2 (smd S (Q 0) n d).toNat))) ∨ (smd S (Q 0) n (d + 1) = ((n - 1 - d : Nat) : Int) ∧ Q 0 (n - 1 - d) = 1 ∧ (smd S (Q 0) n d = -1 ∨ S 2 (n - 1 - d) ≤ S 2 (smd S (Q 0) n d).toNat)) := by
              rw [smd]
              by_cases c : Q 0 (n - 1 - d) = 1 ∧ (smd S (Q 0) n d = -1 ∨ S 2 (n - 1 - d) ≤ S 2 (smd S (Q 0) n d).toNat)
              · rw [if_pos c]; exact Or.inr ⟨rfl, c⟩
              · rw [if_neg c]; exact Or.inl ⟨rfl, c⟩
            rcases e1 with ⟨e1, e1b⟩ | ⟨e1, e1b⟩ <;> rcases e2 with ⟨e2, e2b⟩ | ⟨e2, e2b⟩ <;> first | (exfalso; omega) | (rw [e1, e2, show (n : Int) - 1 - ((d + 1 : Nat) : Int) = (n : Int) - 1 - (d : Int) + -1 by omega]; rfl) | (rw [e1, e2, show (n : Int) - 1 - ((d + 1 : Nat) : Int) = ((n - 1 - d : Nat) : Int) + -1 by omega]; rfl)
          · show jT _ _ 113 _ _ _ _
            refine tl_aload_n rfl rfl ?_
            refine tl_getr (c := 12) (k9 := 40) (b := 409) rfl rfl rfl rfl ?_
            show jT _ _ 117 _ _ _ _
            refine tl_iload rfl rfl ?_
            refine tl_iald (n := 100) rfl rfl rfl (by omega) (by omega) ?_
            rw [Int.toNat_natCast, show mem 409 (n - 1 - d) = S 2 (n - 1 - d) by omega]
            refine tl_aload_n rfl rfl ?_
            refine tl_getr (c := 12) (k9 := 40) (b := 409) rfl rfl rfl rfl ?_
            refine tl_iload_n rfl rfl ?_
            refine tl_iald (n := 100) rfl rfl rfl (by omega) (by omega) ?_
            rw [show mem 409 (smd S (Q 0) n d).toNat = S 2 (smd S (Q 0) n d).toNat by omega]
            refine tl_icmp_gt (tgt := 134) rfl rfl ⟨by omega, by omega⟩ ⟨by omega, by omega⟩ (fun c7 => ?_) (fun c7 => ?_)
            · skip
              show jT _ _ 134 _ _ _ _
              refine tl_iload_n rfl rfl ?_
              refine tl_istore_n rfl (Nat.le_of_ble_eq_true rfl) rfl ?_
              refine tl_iinc rfl rfl rfl ?_
              refine tl_goto (tgt := 76) rfl rfl ?_
              show jT _ _ 76 _ _ _ _
              -- leaf 6 at 76
              refine jT.loc ?_ (ih (d + 1) (by omega) (by omega))
              have e1 : (itd (frP S (Q 0) n) n (d + 1) = itd (frP S (Q 0) n) n d ∧ ¬ (Q 0 (n - 1 - d) = 1 ∧ cnR S (Q 0) n (n - 1 - d) = 0)) ∨ (itd (frP S (Q 0) n) n (d + 1) = ((n - 1 - d : Nat) : Int) ∧ Q 0 (n - 1 - d) = 1 ∧ cnR S (Q 0) n (n - 1 - d) = 0) := by
                rw [itd]
                by_cases c : Q 0 (n - 1 - d) = 1 ∧ cnR S (Q 0) n (n - 1 - d) = 0
                · rw [if_pos (frP_t.mpr c)]; exact Or.inr ⟨rfl, c⟩
                · rw [if_neg (fun w => c (frP_t.mp w))]; exact Or.inl ⟨rfl, c⟩
              have e2 : (smd S (Q 0) n (d + 1) = smd S (Q 0) n d ∧ ¬ (Q 0 (n - 1 - d) = 1 ∧ (smd S (Q 0) n d = -1 ∨ S 2 (n - 1 - d) ≤ S 2 (smd S (Q 0) n d).toNat))) ∨ (smd S (Q 0) n (d + 1) = ((n - 1 - d : Nat) : Int) ∧ Q 0 (n - 1 - d) = 1 ∧ (smd S (Q 0) n d = -1 ∨ S 2 (n - 1 - d) ≤ S 2 (smd S (Q 0) n d).toNat)) := by
                rw [smd]
                by_cases c : Q 0 (n - 1 - d) = 1 ∧ (smd S (Q 0) n d = -1 ∨ S 2 (n - 1 - d) ≤ S 2 (smd S (Q 0) n d).toNat)
                · rw [if_pos c]; exact Or.inr ⟨rfl, c⟩
                · rw [if_neg c]; exact Or.inl ⟨rfl, c⟩
              rcases e1 with ⟨e1, e1b⟩ | ⟨e1, e1b⟩ <;> rcases e2 with ⟨e2, e2b⟩ | ⟨e2, e2b⟩ <;> first | (exfalso; omega) | (rw [e1, e2, show (n : Int) - 1 - ((d + 1 : Nat) : Int) = (n : Int) - 1 - (d : Int) + -1 by omega]; rfl) | (rw [e1, e2, show (n : Int) - 1 - ((d + 1 : Nat) : Int) = ((n - 1 - d : Nat) : Int) + -1 by omega]; rfl)
            · show jT _ _ 129 _ _ _ _
              refine tl_iload rfl rfl ?_
              refine tl_goto (tgt := 135) rfl rfl ?_
              refine tl_istore_n rfl (Nat.le_of_ble_eq_true rfl) rfl ?_
              show jT _ _ 136 _ _ _ _
              refine tl_iinc rfl rfl rfl ?_
              refine tl_goto (tgt := 76) rfl rfl ?_
              show jT _ _ 76 _ _ _ _
              -- leaf 7 at 76
              refine jT.loc ?_ (ih (d + 1) (by omega) (by omega))
              have e1 : (itd (frP S (Q 0) n) n (d + 1) = itd (frP S (Q 0) n) n d ∧ ¬ (Q 0 (n - 1 - d) = 1 ∧ cnR S (Q 0) n (n - 1 - d) = 0)) ∨ (itd (frP S (Q 0) n) n (d + 1) = ((n - 1 - d : Nat) : Int) ∧ Q 0 (n - 1 - d) = 1 ∧ cnR S (Q 0) n (n - 1 - d) = 0) := by
                rw [itd]
                by_cases c : Q 0 (n - 1 - d) = 1 ∧ cnR S (Q 0) n (n - 1 - d) = 0
                · rw [if_pos (frP_t.mpr c)]; exact Or.inr ⟨rfl, c⟩
                · rw [if_neg (fun w => c (frP_t.mp w))]; exact Or.inl ⟨rfl, c⟩
              have e2 : (smd S (Q 0) n (d + 1) = smd S (Q 0) n d ∧ ¬ (Q 0 (n - 1 - d) = 1 ∧ (smd S (Q 0) n d = -1 ∨ S 2 (n - 1 - d) ≤ S 2 (smd S (Q 0) n d).toNat))) ∨ (smd S (Q 0) n (d + 1) = ((n - 1 - d : Nat) : Int) ∧ Q 0 (n - 1 - d) = 1 ∧ (smd S (Q 0) n d = -1 ∨ S 2 (n - 1 - d) ≤ S 2 (smd S (Q 0) n d).toNat)) := by
                rw [smd]
                by_cases c : Q 0 (n - 1 - d) = 1 ∧ (smd S (Q 0) n d = -1 ∨ S 2 (n - 1 - d) ≤ S 2 (smd S (Q 0) n d).toNat)
                · rw [if_pos c]; exact Or.inr ⟨rfl, c⟩
                · rw [if_neg c]; exact Or.inl ⟨rfl, c⟩
              rcases e1 with ⟨e1, e1b⟩ | ⟨e1, e1b⟩ <;> rcases e2 with ⟨e2, e2b⟩ | ⟨e2, e2b⟩ <;> first | (exfalso; omega) | (rw [e1, e2, show (n : Int) - 1 - ((d + 1 : Nat) : Int) = (n : Int) - 1 - (d : Int) + -1 by omega]; rfl) | (rw [e1, e2, show (n : Int) - 1 - ((d + 1 : Nat) : Int) = ((n - 1 - d : Nat) : Int) + -1 by omega]; rfl)
theorem ORR_b {h h2 S Q : jH} {n k : Nat} (k9 : ORR h n Q) (q0 : 0 ≤ Q 2 0) (e : orI S n Q = (k : Int)) (a1 : ∀ q, h2 418 q = if q = k then 0 else h 418 q) (a4 : h2 388 53 = Q 2 0 + 1) (a5 : ∀ i, h2 417 i = if i = (Q 2 0).toNat then (k : Int) else h 417 i) : ORR h2 n (or1 S n Q) := by
  have E0 : ∀ i, i ≠ k → or1 S n Q 0 i = Q 0 i := fun i hi => by rw [or1_b e, hs_o (by decide), hs_o (by decide), hs_k hi]
  have Ek : or1 S n Q 0 k = 0 := by rw [or1_b e, hs_o (by decide), hs_o (by decide), hs_s]
  have E2 : or1 S n Q 2 0 = Q 2 0 + 1 := by rw [or1_b e, hs_s]
  refine ⟨fun q hq => ?_, by rw [E2]; exact a4, fun i hi => ?_⟩
  · rw [a1]
    by_cases c : q = k
    · subst c; rw [if_pos rfl, Ek]
    · rw [if_neg c, k9.1 q hq, E0 q c]
  · rw [E2] at hi
    rw [a5, or1_b e, hs_o (by decide)]
    by_cases c : i = (Q 2 0).toNat
    · rw [if_pos c, c, hs_s]
    · rw [if_neg c, hs_k c, hs_o (by decide)]; exact k9.2.2 i (by omega)
theorem ORR_a {h h2 S Q : jH} {n k : Nat} (k9 : ORR h n Q) (e : orI S n Q = -1) (f : orM S n Q = (k : Int)) (a1 : ∀ q, h2 418 q = if q = k then 2 else h 418 q) (a4 : h2 388 53 = h 388 53) (a5 : h2 417 = h 417) : ORR h2 n (or1 S n Q) := by
  refine ⟨fun q hq => ?_, by rw [or1_a e f, hs_o (by decide), a4]; exact k9.2.1, fun i hi => ?_⟩
  · rw [a1, or1_a e f]
    by_cases c : q = k
    · subst c; rw [if_pos rfl, hs_s]
    · rw [if_neg c, hs_k c]; exact k9.1 q hq
  · rw [or1_a e f, hs_o (by decide)] at hi
    rw [or1_a e f, hs_o (by decide), a5]; exact k9.2.2 i hi
set_option maxRecDepth 20000 in
set_option maxHeartbeats 1000000 in
theorem r_lo9_C (l : Launch) (h : jH) (S : jH) (n : Nat) (sb : SB9 S n) (kp : PTR h S n) (hn : h 388 38 = (n : Int)) (P : Option Value → jH → Prop) (hP : ∀ mem, (ORR mem n (orT S n (orW S n).toNat) ∧ (∀ x, x ≠ 388 → x ≠ 417 → x ≠ 418 → mem x = h x) ∧ ∀ q, q ≠ 53 → mem 388 q = h 388 q) → P none mem) : ∀ (m : Nat) (r : Nat) (mem : jH) (y2 : Option Value) (y3 : Option Value) (y4 : Option Value), (orW S n).toNat - r < m → ((r : Int) ≤ orW S n ∧ ORR mem n (orT S n r) ∧ (∀ x, x ≠ 388 → x ≠ 417 → x ≠ 418 → mem x = h x) ∧ ∀ q, q ≠ 53 → mem 388 q = h 388 q) → jT l 303 60 [some (.ref 388), some (.int (jI (orW S n - (r : Int)))), y2, y3, y4] [] mem P := by
  have n99 := sb.1
  have wb := orW_b (S := S) (n := n)
  intro m
  induction m with
  | zero => intro r mem y2 y3 y4 hk; omega
  | succ m ih =>
    intro r mem y2 y3 y4 hk hi
    obtain ⟨i0, k9, fr⟩ := hi
    have kpm : PTR mem S n := kp.of (fun x x1 x2 => fr.1 x (by omega) (by omega) (by omega))
    have hnm : mem 388 38 = (n : Int) := by rw [fr.2 38 (by decide)]; exact hn
    have oi := OI_r (S := S) (n := n) r i0
    have oi2 := oi.2.2.1
    have nx := fun (hr : (r : Int) < orW S n) => oi.nx hr
    refine tl_iload_n rfl rfl ?_
    refine tl_if_le (tgt := 190) rfl rfl ⟨by omega, by omega⟩ (fun c1 => ?_) (fun c1 => ?_)
    · skip
      refine tl_ret rfl ?_
      -- leaf 0 at 190
      have e : r = (orW S n).toNat := by omega
      subst e
      exact hP mem ⟨k9, fr⟩
    · show jT _ _ 64 _ _ _ _
      refine tl_iconst rfl ?_
      refine tl_istore_n rfl (Nat.le_of_ble_eq_true rfl) rfl ?_
      refine tl_iconst rfl ?_
      show jT _ _ 67 _ _ _ _
      refine tl_istore_n rfl (Nat.le_of_ble_eq_true rfl) rfl ?_
      refine tl_aload_n rfl rfl ?_
      refine tl_geti (c := 12) (k9 := 38) rfl rfl rfl ?_
      rw [hnm]
      refine tl_iconst rfl ?_
      refine tl_isub rfl ?_
      refine tl_istore rfl (Nat.le_of_ble_eq_true rfl) rfl ?_
      show jT _ _ 76 _ _ _ _
      -- leaf 1 at 76
      refine jT.loc ?_ (r_lo9_B l mem S n sb kpm hnm (orT S n r) r (orW S n - (r : Int)) oi k9 _ ?_ _ 0 (Nat.lt_succ_self _) (Nat.zero_le _))
      · rw [show (n : Int) - 1 - ((0 : Nat) : Int) = (n : Int) - 1 by omega]; rfl
      · rcases nx (by omega) with ⟨a, k, k1, k2, k3⟩ | ⟨k, k1, k2, k3⟩
        · rw [a, k2]
          refine tl_iload_n rfl rfl ?_
          refine tl_iconst rfl ?_
          refine tl_icmp_ne (tgt := 157) rfl rfl ⟨by omega, by omega⟩ ⟨by omega, by omega⟩ (fun c1 => ?_) (fun c1 => ?_)
          · skip
            exfalso; omega
          · show jT _ _ 147 _ _ _ _
            refine tl_aload_n rfl rfl ?_
            refine tl_getr (c := 12) (k9 := 54) (b := 418) rfl rfl rfl rfl ?_
            refine tl_iload_n rfl rfl ?_
            show jT _ _ 152 _ _ _ _
            refine tl_iconst rfl ?_
            refine tl_iast (n := 100) rfl rfl rfl (by omega) (by omega) ?_
            rw [Int.toNat_natCast]
            refine tl_goto (tgt := 184) rfl rfl ?_
            refine tl_iinc rfl rfl rfl ?_
            refine tl_goto (tgt := 60) rfl rfl ?_
            show jT _ _ 60 _ _ _ _
            -- leaf 0 at 60
            rw [show orW S n - (r : Int) + -1 = orW S n - ((r + 1 : Nat) : Int) by omega]
            refine ih (r + 1) (hs mem 418 k 2) _ _ _ (by omega) ⟨by omega, ORR_a k9 a k2 (fun q => ?_) (by rw [hs_o (by decide)]) (hs_O (by decide)), fun x x1 x2 x3 => by rw [hs_O x3]; exact fr.1 x x1 x2 x3, fun q hq => by rw [hs_o (by decide)]; exact fr.2 q hq⟩
            · by_cases c : q = k
              · subst c; rw [if_pos rfl, hs_s]
              · rw [if_neg c, hs_k c]
        · have mb : -1 ≤ orM S n (orT S n r) ∧ orM S n (orT S n r) ≤ n := by
            have s9 := smd_s (S := S) (st := (orT S n r) 0) (n := n) n (Nat.le_refl _)
            rcases s9 with ⟨b, _⟩ | ⟨q, _, b, e, _⟩
            · show -1 ≤ smd S ((orT S n r) 0) n n ∧ smd S ((orT S n r) 0) n n ≤ n; omega
            · show -1 ≤ smd S ((orT S n r) 0) n n ∧ smd S ((orT S n r) 0) n n ≤ n; omega
          rw [k2]
          refine tl_iload_n rfl rfl ?_
          refine tl_iconst rfl ?_
          refine tl_icmp_ne (tgt := 157) rfl rfl ⟨by omega, by omega⟩ ⟨by omega, by omega⟩ (fun c1 => ?_) (fun c1 => ?_)
          · skip
            refine tl_aload_n rfl rfl ?_
            refine tl_getr (c := 12) (k9 := 54) (b := 418) rfl rfl rfl rfl ?_
            refine tl_iload_n rfl rfl ?_
            show jT _ _ 162 _ _ _ _
            refine tl_iconst rfl ?_
            refine tl_iast (n := 100) rfl rfl rfl (by omega) (by omega) ?_
            rw [Int.toNat_natCast]
            refine tl_aload_n rfl rfl ?_
            refine tl_getr (c := 12) (k9 := 52) (b := 417) rfl rfl rfl rfl ?_
            refine tl_aload_n rfl rfl ?_
            refine tl_geti (c := 12) (k9 := 53) rfl rfl rfl ?_
            rw [hs_o (by decide), k9.2.1]
            refine tl_iload_n rfl rfl ?_
            show jT _ _ 173 _ _ _ _
            refine tl_iast (n := 100) rfl rfl rfl (by omega) (by omega) ?_
            refine tl_aload_n rfl rfl ?_
            refine tl_dup rfl rfl ?_
            refine tl_geti (c := 12) (k9 := 53) rfl rfl rfl ?_
            rw [hs_o (by decide), hs_o (by decide), k9.2.1]
            refine tl_iconst rfl ?_
            refine tl_iadd rfl ?_
            refine tl_puti (c := 12) (k9 := 53) rfl rfl rfl rfl ?_
            show jT _ _ 184 _ _ _ _
            refine tl_iinc rfl rfl rfl ?_
            refine tl_goto (tgt := 60) rfl rfl ?_
            show jT _ _ 60 _ _ _ _
            -- leaf 0 at 60
            rw [show orW S n - (r : Int) + -1 = orW S n - ((r + 1 : Nat) : Int) by omega]
            refine ih (r + 1) (hs (hs (hs mem 418 k 0) 417 ((orT S n r) 2 0).toNat (k : Int)) 388 53 ((orT S n r) 2 0 + 1)) _ _ _ (by omega) ⟨by omega, ORR_b k9 oi2.1 k2 (fun q => ?_) hs_s (fun i => ?_), fun x x1 x2 x3 => by rw [hs_O x1, hs_O x2, hs_O x3]; exact fr.1 x x1 x2 x3, fun q hq => by rw [hs_k hq, hs_o (by decide), hs_o (by decide)]; exact fr.2 q hq⟩
            · rw [hs_o (by decide), hs_o (by decide)]
              by_cases c : q = k
              · subst c; rw [if_pos rfl, hs_s]
              · rw [if_neg c, hs_k c]
            · rw [hs_o (by decide)]
              by_cases c : i = ((orT S n r) 2 0).toNat
              · rw [if_pos c, c, hs_s]
              · rw [if_neg c, hs_k c, hs_o (by decide)]
          · show jT _ _ 147 _ _ _ _
            exfalso; omega
set_option maxRecDepth 20000 in
set_option maxHeartbeats 1000000 in
theorem r_layOrder (l : Launch) (h : jH) (S : jH) (n : Nat) (sb : SB9 S n) (kp : PTR h S n) (hn : h 388 38 = (n : Int)) : cV l 303 [.ref 388] h (fun h' => ORR h' n (orT S n (orW S n).toNat) ∧ (∀ x, x ≠ 388 → x ≠ 417 → x ≠ 418 → h' x = h x) ∧ ∀ q, q ≠ 53 → h' 388 q = h 388 q) := by
  have n99 := sb.1
  have wb := orW_b (S := S) (n := n)
  refine cV.of rfl rfl ?_
  refine tl_aload_n rfl rfl ?_
  refine tl_iconst rfl ?_
  refine tl_puti (c := 12) (k9 := 53) rfl rfl rfl rfl ?_
  refine tl_iconst rfl ?_
  refine tl_istore_n rfl (Nat.le_of_ble_eq_true rfl) rfl ?_
  refine tl_iconst rfl ?_
  show jT _ _ 8 _ _ _ _
  refine tl_istore_n rfl (Nat.le_of_ble_eq_true rfl) rfl ?_
  show jT _ _ 9 _ _ _ _
  -- leaf 0 at 9
  refine r_lo9_A l _ S n sb (kp.of (fun x x1 x2 => hs_O (by omega))) (by rw [hs_k (by decide)]; exact hn) _ (fun mem hi => ?_) _ 0 _ (Nat.lt_succ_self _) ⟨Nat.zero_le _, fun q hq => absurd hq (by omega), fun _ _ => rfl⟩
  obtain ⟨i1, fr⟩ := hi
  refine jT.loc ?_ (r_lo9_C l h S n sb kp hn _ (fun mem2 hz => ⟨rfl, hz⟩) _ 0 mem (some (.int (jI (n : Int)))) none none (Nat.lt_succ_self _) ⟨by omega, ⟨i1, ?_, fun i hi => absurd hi (by show ¬ (i : Int) < 0; omega)⟩, fun x x1 x2 x3 => ?_, fun q hq => ?_⟩)
  · rw [show orW S n - ((0 : Nat) : Int) = orW S n by omega]
  · rw [fr 388 (by decide), hs_s]; rfl
  · rw [fr x x3, hs_O x1]
  · rw [fr 388 (by decide), hs_k hq]
theorem sd_9 {R : Nat → Int} {k : Int} (so : sOk R) (h : snd9 R k = true) : SB9 (rS (slL R k)) (rNp (slL R k)) := by
  have a := sd_1 so h
  refine ⟨a.2.1, fun q hq => ?_⟩
  have b := sd_2 so h hq
  exact ⟨b.1, b.2.1, b.2.2.2.1.1, by have := b.2.2.2.1.2; have := b.2.1.1; have := b.2.2.1.1; omega⟩
def oQ (V : List Int) : jH := orT (rS V) (rNp V) (orW (rS V) (rNp V)).toNat
theorem oQ_I {V : List Int} : OI (rS V) (rNp V) (orW (rS V) (rNp V)) (oQ V) := by
  have w := orW_b (S := rS V) (n := rNp V)
  have := OI_r (S := rS V) (n := rNp V) (orW (rS V) (rNp V)).toNat (by omega)
  rw [show (((orW (rS V) (rNp V)).toNat : Nat) : Int) = orW (rS V) (rNp V) by omega] at this
  exact this
def Aord (R : Nat → Int) (k i : Int) : Int := if snd9 R k = true ∧ 0 ≤ i ∧ i < oQ (slL R k) 2 0 then oQ (slL R k) 1 i.toNat else -1
def Adrp (R : Nat → Int) (k w : Int) : Int := if (0 ≤ w ∧ w ≤ 1) ∧ snd9 R k = true then (if w = 0 then sm (dpC (oQ (slL R k) 0)) (rNp (slL R k)) else sm (dpS (rS (slL R k)) (oQ (slL R k) 0)) (rNp (slL R k))) else -1
def Dorder (s : jH) (k i : Int) : Int × jH := (Aord (s 390) k i, s)
def Ddropped (s : jH) (k w : Int) : Int × jH := (Adrp (s 390) k w, s)
theorem Ag.order {s s' : jH} (h : Ag s s') (k i : Int) : AgD (Dorder s k i) (Dorder s' k i) := AgD.rd h (by rw [h 390 (by decide)])
theorem Ag.dropped {s s' : jH} (h : Ag s s') (k i : Int) : AgD (Ddropped s k i) (Ddropped s' k i) := AgD.rd h (by rw [h 390 (by decide)])
theorem KF.cp {a b c : jH} (f : ∀ x, (x < 339 ∨ 355 < x) → b x = a x) (g : (∀ x, x < 356 ∨ 360 < x → c x = b x) ∧ ∀ q, 4 ≤ q → c 356 q = b 356 q) : KF a c := ⟨fun x hx => by rw [g.1 x (by omega), f x (by omega)], by rw [g.2 4 (by decide), f 356 (by decide)], by rw [g.2 5 (by decide), f 356 (by decide)], by rw [g.1 362 (by decide), f 362 (by decide)], by rw [g.1 362 (by decide), f 362 (by decide)]⟩
theorem RF.lo {a b c : jH} (f : FS9 a b) (g : (∀ x, x ≠ 388 → x ≠ 417 → x ≠ 418 → c x = b x) ∧ ∀ q, q ≠ 53 → c 388 q = b 388 q) : RF a c := f.rf.trans (RF.of (fun x hx => g.1 x (by omega) (by omega) (by omega)) (fun q hq => g.2 q (by omega)))
set_option maxRecDepth 20000 in
set_option maxHeartbeats 1000000 in
theorem k_order (l : Launch) (h s : jH) (t k i : Int) (hI : IC h s t) (hk : jr k) (hi : jr i) : cI l 175 [.ref 0, .int (jI k), .int (jI i)] h (PK h t (Dorder s k i)) := by
  have k1 := hk.1
  have k2 := hk.2
  have i1 := hi.1
  have i2 := hi.2
  refine cI.of rfl rfl ?_
  refine tl_aload_n rfl rfl ?_
  refine tl_iload_n rfl rfl ?_
  refine tl_v1i (c9 := 11) (k_isSound l h (s 390) hI.1 k ⟨by omega, by omega⟩) rfl rfl rfl rfl rfl (Nat.le_of_ble_eq_true rfl) (fun z1 h1 p1 => ?_)
  obtain ⟨e1, g1, f1⟩ := p1
  have b1 := zb_b (snd9 (s 390) k)
  subst e1
  refine tl_if_ne (tgt := 10) rfl rfl ⟨by omega, by omega⟩ (fun c1 => ?_) (fun c1 => ?_)
  · skip
    have es := zb1 c1
    have sb9 := sd_9 hI.sok es
    have n99 := sb9.1
    have oi := oQ_I (V := (slL (s 390) k))
    have oi2 := oi.2.2.1
    have wb := orW_b (S := rS (slL (s 390) k)) (n := rNp (slL (s 390) k))
    refine tl_aload_n rfl rfl ?_
    refine tl_getr (c := 11) (k9 := 14) (b := 356) rfl rfl rfl rfl ?_
    show jT _ _ 14 _ _ _ _
    refine tl_aload_n rfl rfl ?_
    refine tl_getr (c := 11) (k9 := 13) (b := 339) rfl rfl rfl rfl ?_
    refine tl_v1v (c9 := 1) (k_findOrder l h1 (rS (slL (s 390) k)) (rNp (slL (s 390) k)) sb9 (g1 es).1.2.2.2.2 (g1 es).2.1) rfl rfl rfl rfl rfl (Nat.le_of_ble_eq_true rfl) (fun h2 p2 => ?_)
    obtain ⟨k9, f2⟩ := p2
    change ORK h2 (rS (slL (s 390) k)) (rNp (slL (s 390) k)) (oQ (slL (s 390) k)) at k9
    refine tl_iload_n rfl rfl ?_
    refine tl_if_lt (tgt := 36) rfl rfl ⟨by omega, by omega⟩ (fun c2 => ?_) (fun c2 => ?_)
    · skip
      refine tl_iconst rfl ?_
      refine tl_goto (tgt := 49) rfl rfl ?_
      show jT _ _ 49 _ _ _ _
      refine tl_iret rfl ?_
      -- leaf 0 at 49
      refine ⟨_, rfl, ?_⟩
      have e : Aord (s 390) k i = -1 := by rw [Aord, if_neg (by omega)]
      rw [Dorder, e]
      exact PK.rd hI (KF.cp f1 f2)
    · show jT _ _ 25 _ _ _ _
      refine tl_iload_n rfl rfl ?_
      refine tl_aload_n rfl rfl ?_
      refine tl_getr (c := 11) (k9 := 14) (b := 356) rfl rfl rfl rfl ?_
      refine tl_geti (c := 1) (k9 := 1) rfl rfl rfl ?_
      rw [k9.2.1]
      refine tl_icmp_lt (tgt := 40) rfl rfl ⟨by omega, by omega⟩ ⟨by omega, by omega⟩ (fun c3 => ?_) (fun c3 => ?_)
      · skip
        refine tl_aload_n rfl rfl ?_
        show jT _ _ 41 _ _ _ _
        refine tl_getr (c := 11) (k9 := 14) (b := 356) rfl rfl rfl rfl ?_
        refine tl_getr (c := 1) (k9 := 0) (b := 357) rfl rfl rfl rfl ?_
        refine tl_iload_n rfl rfl ?_
        refine tl_iald (n := 100) rfl rfl rfl (by omega) (by omega) ?_
        rw [k9.2.2.2.2 i.toNat (by omega)]
        refine tl_iret rfl ?_
        -- leaf 1 at 49
        refine ⟨_, rfl, ?_⟩
        have e : Aord (s 390) k i = oQ (slL (s 390) k) 1 i.toNat := by rw [Aord, if_pos ⟨es, by omega, by omega⟩]
        rw [Dorder, e]
        exact PK.rd hI (KF.cp f1 f2)
      · show jT _ _ 36 _ _ _ _
        refine tl_iconst rfl ?_
        refine tl_goto (tgt := 49) rfl rfl ?_
        show jT _ _ 49 _ _ _ _
        refine tl_iret rfl ?_
        -- leaf 2 at 49
        refine ⟨_, rfl, ?_⟩
        have e : Aord (s 390) k i = -1 := by rw [Aord, if_neg (by omega)]
        rw [Dorder, e]
        exact PK.rd hI (KF.cp f1 f2)
  · show jT _ _ 8 _ _ _ _
    have es := zb0' c1
    refine tl_iconst rfl ?_
    refine tl_iret rfl ?_
    -- leaf 3 at 9
    refine ⟨_, rfl, ?_⟩
    have e : Aord (s 390) k i = -1 := by rw [Aord, if_neg (fun w => by rw [w.1] at es; exact absurd es (by decide))]
    rw [Dorder, e]
    exact PK.rd hI (KF.rd9 f1)
set_option maxRecDepth 20000 in
set_option maxHeartbeats 1000000 in
theorem r_order (l : Launch) (g h : jH) (t k i : Int) (hI0 : IC g h t) (hk : jr k) (hi : jr i) : cI l 304 [.ref 388, .int (jI k), .int (jI i)] h (PRF (Dorder (Tz h) k i)) := by
  have k1 := hk.1
  have k2 := hk.2
  have i1 := hi.1
  have i2 := hi.2
  refine cI.of rfl rfl ?_
  refine tl_aload_n rfl rfl ?_
  refine tl_iconst rfl ?_
  refine tl_puti (c := 12) (k9 := 0) rfl rfl rfl rfl ?_
  have hI := hI0.z
  change jT _ _ _ _ _ (Tz h) _
  generalize Tz h = m at hI ⊢
  refine tl_aload_n rfl rfl ?_
  refine tl_iload_n rfl rfl ?_
  refine tl_v1i (c9 := 12) (r_isRead l m (m 390) rfl hI.ok hI.sok k ⟨by omega, by omega⟩) rfl rfl rfl rfl rfl (Nat.le_of_ble_eq_true rfl) (fun z1 h1 p1 => ?_)
  obtain ⟨e1, g1, f1⟩ := p1
  have b1 := zb_b (snd9 (m 390) k)
  subst e1
  show jT _ _ 10 _ _ _ _
  refine tl_if_ne (tgt := 15) rfl rfl ⟨by omega, by omega⟩ (fun c1 => ?_) (fun c1 => ?_)
  · skip
    have es := zb1 c1
    have sb9 := sd_9 hI.sok es
    have n99 := sb9.1
    have oi := oQ_I (V := (slL (m 390) k))
    have oi2 := oi.2.2.1
    have wb := orW_b (S := rS (slL (m 390) k)) (n := rNp (slL (m 390) k))
    refine tl_aload_n rfl rfl ?_
    refine tl_v0v (c9 := 12) (r_layOrder l h1 (rS (slL (m 390) k)) (rNp (slL (m 390) k)) sb9 (g1 es).2.1 (g1 es).1.2.2.2.2) rfl rfl rfl rfl rfl (Nat.le_of_ble_eq_true rfl) (fun h2 p2 => ?_)
    obtain ⟨k9, f2⟩ := p2
    change ORR h2 (rNp (slL (m 390) k)) (oQ (slL (m 390) k)) at k9
    refine tl_iload_n rfl rfl ?_
    refine tl_i2l rfl ⟨by omega, by omega⟩ ?_
    refine tl_lconst (z := 0) rfl rfl ?_
    refine tl_aload_n rfl rfl ?_
    show jT _ _ 23 _ _ _ _
    refine tl_geti (c := 12) (k9 := 53) rfl rfl rfl ?_
    rw [k9.2.1]
    refine tl_i2l rfl ⟨by omega, by omega⟩ ?_
    refine tl_lconst (z := 1) rfl rfl ?_
    refine tl_lsub rfl ?_
    refine tl_s3i (c_in l _ _ _ _ ⟨by omega, by omega⟩ ⟨by omega, by omega⟩ ⟨by omega, by omega⟩) rfl rfl rfl (Nat.le_of_ble_eq_true rfl) (fun z3 h3 p3 => ?_)
    obtain ⟨q3, p3⟩ := p3
    have q3 := q3.symm
    subst q3
    have b3 : z3 = 0 ∨ z3 = 1 := by rw [p3]; split <;> omega
    refine tl_if_eq (tgt := 44) rfl rfl ⟨by omega, by omega⟩ (fun c2 => ?_) (fun c2 => ?_)
    · skip
      have ci : ¬ (0 ≤ i ∧ i ≤ oQ (slL (m 390) k) 2 0 - 1) := fun c => by rw [if_pos c] at p3; omega
      refine tl_iconst rfl ?_
      show jT _ _ 45 _ _ _ _
      refine tl_iret rfl ?_
      -- leaf 0 at 45
      refine ⟨_, rfl, ?_⟩
      have e : Aord (m 390) k i = -1 := by rw [Aord, if_neg (by omega)]
      rw [Dorder, e]
      exact PRF.rd (RF.lo f1 f2)
    · show jT _ _ 35 _ _ _ _
      have ci : 0 ≤ i ∧ i ≤ oQ (slL (m 390) k) 2 0 - 1 := by
        by_cases c : 0 ≤ i ∧ i ≤ oQ (slL (m 390) k) 2 0 - 1
        · exact c
        · rw [if_neg c] at p3; omega
      refine tl_aload_n rfl rfl ?_
      refine tl_getr (c := 12) (k9 := 52) (b := 417) rfl rfl rfl rfl ?_
      refine tl_iload_n rfl rfl ?_
      refine tl_iald (n := 100) rfl rfl rfl (by omega) (by omega) ?_
      rw [k9.2.2 i.toNat (by omega)]
      refine tl_goto (tgt := 45) rfl rfl ?_
      refine tl_iret rfl ?_
      -- leaf 1 at 45
      refine ⟨_, rfl, ?_⟩
      have e : Aord (m 390) k i = oQ (slL (m 390) k) 1 i.toNat := by rw [Aord, if_pos ⟨es, by omega, by omega⟩]
      rw [Dorder, e]
      exact PRF.rd (RF.lo f1 f2)
  · show jT _ _ 13 _ _ _ _
    have es := zb0' c1
    show jT _ _ 13 _ _ _ _
    refine tl_iconst rfl ?_
    refine tl_iret rfl ?_
    -- leaf 2 at 14
    refine ⟨_, rfl, ?_⟩
    have e : Aord (m 390) k i = -1 := by rw [Aord, if_neg (fun w => by rw [w.1] at es; exact absurd es (by decide))]
    rw [Dorder, e]
    exact PRF.rd f1.rf
set_option maxRecDepth 20000 in
set_option maxHeartbeats 1000000 in
theorem k_dropped (l : Launch) (h s : jH) (t k i : Int) (hI : IC h s t) (hk : jr k) (hi : jr i) : cI l 176 [.ref 0, .int (jI k), .int (jI i)] h (PK h t (Ddropped s k i)) := by
  have k1 := hk.1
  have k2 := hk.2
  have i1 := hi.1
  have i2 := hi.2
  refine cI.of rfl rfl ?_
  refine tl_iload_n rfl rfl ?_
  refine tl_if_lt (tgt := 17) rfl rfl ⟨by omega, by omega⟩ (fun c1 => ?_) (fun c1 => ?_)
  · skip
    refine tl_iconst rfl ?_
    refine tl_iret rfl ?_
    -- leaf 0 at 18
    refine ⟨_, rfl, ?_⟩
    first
      | (have e : Adrp (s 390) k i = -1 := by rw [Adrp, if_neg (fun w => by omega)]
         rw [Ddropped, e]
         exact PK.rd hI KF.rfl')
      | (have e : Adrp (s 390) k i = -1 := by rw [Adrp, if_neg (fun w => by have := w.2; rw [es] at this; exact absurd this (by decide))]
         rw [Ddropped, e]
         exact PK.rd hI (KF.rd9 f1))
  · show jT _ _ 4 _ _ _ _
    refine tl_iload_n rfl rfl ?_
    refine tl_iconst rfl ?_
    show jT _ _ 6 _ _ _ _
    refine tl_icmp_gt (tgt := 17) rfl rfl ⟨by omega, by omega⟩ ⟨by omega, by omega⟩ (fun c2 => ?_) (fun c2 => ?_)
    · skip
      refine tl_iconst rfl ?_
      refine tl_iret rfl ?_
      -- leaf 1 at 18
      refine ⟨_, rfl, ?_⟩
      first
        | (have e : Adrp (s 390) k i = -1 := by rw [Adrp, if_neg (fun w => by omega)]
           rw [Ddropped, e]
           exact PK.rd hI KF.rfl')
        | (have e : Adrp (s 390) k i = -1 := by rw [Adrp, if_neg (fun w => by have := w.2; rw [es] at this; exact absurd this (by decide))]
           rw [Ddropped, e]
           exact PK.rd hI (KF.rd9 f1))
    · show jT _ _ 9 _ _ _ _
      refine tl_aload_n rfl rfl ?_
      refine tl_iload_n rfl rfl ?_
      refine tl_v1i (c9 := 11) (k_isSound l h (s 390) hI.1 k ⟨by omega, by omega⟩) rfl rfl rfl rfl rfl (Nat.le_of_ble_eq_true rfl) (fun z1 h1 p1 => ?_)
      obtain ⟨e1, g1, f1⟩ := p1
      have b1 := zb_b (snd9 (s 390) k)
      subst e1
      refine tl_if_ne (tgt := 19) rfl rfl ⟨by omega, by omega⟩ (fun c3 => ?_) (fun c3 => ?_)
      · skip
        have es := zb1 c3
        have sb9 := sd_9 hI.sok es
        have n99 := sb9.1
        have oi := oQ_I (V := (slL (s 390) k))
        have oi2 := oi.2.2.1
        have wb := orW_b (S := rS (slL (s 390) k)) (n := rNp (slL (s 390) k))
        show jT _ _ 19 _ _ _ _
        refine tl_aload_n rfl rfl ?_
        refine tl_getr (c := 11) (k9 := 14) (b := 356) rfl rfl rfl rfl ?_
        refine tl_aload_n rfl rfl ?_
        refine tl_getr (c := 11) (k9 := 13) (b := 339) rfl rfl rfl rfl ?_
        refine tl_v1v (c9 := 1) (k_findOrder l h1 (rS (slL (s 390) k)) (rNp (slL (s 390) k)) sb9 (g1 es).1.2.2.2.2 (g1 es).2.1) rfl rfl rfl rfl rfl (Nat.le_of_ble_eq_true rfl) (fun h2 p2 => ?_)
        obtain ⟨k9, f2⟩ := p2
        change ORK h2 (rS (slL (s 390) k)) (rNp (slL (s 390) k)) (oQ (slL (s 390) k)) at k9
        refine tl_iload_n rfl rfl ?_
        refine tl_if_ne (tgt := 44) rfl rfl ⟨by omega, by omega⟩ (fun c4 => ?_) (fun c4 => ?_)
        · skip
          show jT _ _ 44 _ _ _ _
          refine tl_aload_n rfl rfl ?_
          refine tl_getr (c := 11) (k9 := 14) (b := 356) rfl rfl rfl rfl ?_
          refine tl_geti (c := 1) (k9 := 3) rfl rfl rfl ?_
          rw [k9.2.2.2.1]
          refine tl_iret rfl ?_
          -- leaf 2 at 51
          refine ⟨_, rfl, ?_⟩
          have e : Adrp (s 390) k i = sm (dpS (rS (slL (s 390) k)) (oQ (slL (s 390) k) 0)) (rNp (slL (s 390) k)) := by rw [Adrp, if_pos ⟨by omega, es⟩, if_neg (by omega)]
          rw [Ddropped, e]
          exact PK.rd hI (KF.cp f1 f2)
        · show jT _ _ 34 _ _ _ _
          refine tl_aload_n rfl rfl ?_
          refine tl_getr (c := 11) (k9 := 14) (b := 356) rfl rfl rfl rfl ?_
          refine tl_geti (c := 1) (k9 := 2) rfl rfl rfl ?_
          rw [k9.2.2.1]
          show jT _ _ 41 _ _ _ _
          refine tl_goto (tgt := 51) rfl rfl ?_
          refine tl_iret rfl ?_
          -- leaf 3 at 51
          refine ⟨_, rfl, ?_⟩
          have e : Adrp (s 390) k i = sm (dpC (oQ (slL (s 390) k) 0)) (rNp (slL (s 390) k)) := by rw [Adrp, if_pos ⟨by omega, es⟩, if_pos (by omega)]
          rw [Ddropped, e]
          exact PK.rd hI (KF.cp f1 f2)
      · show jT _ _ 17 _ _ _ _
        have es := zb0' c3
        refine tl_iconst rfl ?_
        refine tl_iret rfl ?_
        -- leaf 4 at 18
        refine ⟨_, rfl, ?_⟩
        first
          | (have e : Adrp (s 390) k i = -1 := by rw [Adrp, if_neg (fun w => by omega)]
             rw [Ddropped, e]
             exact PK.rd hI KF.rfl')
          | (have e : Adrp (s 390) k i = -1 := by rw [Adrp, if_neg (fun w => by have := w.2; rw [es] at this; exact absurd this (by decide))]
             rw [Ddropped, e]
             exact PK.rd hI (KF.rd9 f1))
set_option maxRecDepth 20000 in
set_option maxHeartbeats 1000000 in
theorem r_dr_lp (l : Launch) (mem : jH) (S : jH) (n : Nat) (sb : SB9 S n) (kp : PTR mem S n) (hn : mem 388 38 = (n : Int)) (Q : jH) (r9 : Int) (oi : OI S n r9 Q) (k9 : ORR mem n Q) (ka w9 : Int) (hw9 : 0 ≤ w9 ∧ w9 ≤ 1) (P : Option Value → jH → Prop) (hP : P (some (.int (jI (if w9 = 0 then sm (dpC (Q 0)) n else sm (dpS S (Q 0)) n)))) mem) : ∀ (m : Nat) (k : Nat), n - k < m → k ≤ n → jT l 305 37 [some (.ref 388), some (.int (jI (ka))), some (.int (jI (w9))), some (.int (jI (sm (dpC (Q 0)) k))), some (.int (jI (sm (dpS S (Q 0)) k))), some (.int (jI ((k : Int))))] [] mem P := by
  have n99 := sb.1
  intro m
  induction m with
  | zero => intro k hk; omega
  | succ m ih =>
    intro k hk hi
    have kf : n ≤ k ∨ (k < n ∧ mem 418 k = Q 0 k ∧ (Q 0 k = 0 ∨ Q 0 k = 1 ∨ Q 0 k = 2) ∧ mem 409 k = S 2 k) := by
      by_cases c : k < n
      · exact Or.inr ⟨c, k9.1 k c, (oi.1 k c).1, (kp k c).2.1⟩
      · exact Or.inl (by omega)
    have s1 : sm (dpC (Q 0)) (k + 1) = sm (dpC (Q 0)) k + dpC (Q 0) k := rfl
    have s2 : sm (dpS S (Q 0)) (k + 1) = sm (dpS S (Q 0)) k + dpS S (Q 0) k := rfl
    refine tl_iload rfl rfl ?_
    refine tl_aload_n rfl rfl ?_
    refine tl_geti (c := 12) (k9 := 38) rfl rfl rfl ?_
    rw [hn]
    refine tl_icmp_ge (tgt := 98) rfl rfl ⟨by omega, by omega⟩ ⟨by omega, by omega⟩ (fun c1 => ?_) (fun c1 => ?_)
    · skip
      refine tl_iload_n rfl rfl ?_
      refine tl_if_ne (tgt := 106) rfl rfl ⟨by omega, by omega⟩ (fun c2 => ?_) (fun c2 => ?_)
      · skip
        show jT _ _ 106 _ _ _ _
        refine tl_iload rfl rfl ?_
        refine tl_iret rfl ?_
        -- leaf 0 at 108
        have e : k = n := by omega
        subst e
        rw [if_neg (by omega)] at hP
        exact hP
      · show jT _ _ 102 _ _ _ _
        refine tl_iload_n rfl rfl ?_
        refine tl_goto (tgt := 108) rfl rfl ?_
        refine tl_iret rfl ?_
        -- leaf 1 at 108
        have e : k = n := by omega
        subst e
        rw [if_pos (by omega)] at hP
        exact hP
    · show jT _ _ 46 _ _ _ _
      refine tl_iload_n rfl rfl ?_
      refine tl_aload_n rfl rfl ?_
      show jT _ _ 48 _ _ _ _
      refine tl_getr (c := 12) (k9 := 54) (b := 418) rfl rfl rfl rfl ?_
      refine tl_iload rfl rfl ?_
      refine tl_iald (n := 100) rfl rfl rfl (by omega) (by omega) ?_
      rw [Int.toNat_natCast, show mem 418 k = Q 0 k by omega]
      refine tl_iconst rfl ?_
      refine tl_icmp_ne (tgt := 62) rfl rfl ⟨by omega, by omega⟩ ⟨by omega, by omega⟩ (fun c3 => ?_) (fun c3 => ?_)
      · skip
        refine tl_iconst rfl ?_
        refine tl_iadd rfl ?_
        show jT _ _ 64 _ _ _ _
        refine tl_istore_n rfl (Nat.le_of_ble_eq_true rfl) rfl ?_
        refine tl_iload rfl rfl ?_
        refine tl_aload_n rfl rfl ?_
        refine tl_getr (c := 12) (k9 := 54) (b := 418) rfl rfl rfl rfl ?_
        refine tl_iload rfl rfl ?_
        refine tl_iald (n := 100) rfl rfl rfl (by omega) (by omega) ?_
        rw [Int.toNat_natCast, show mem 418 k = Q 0 k by omega]
        refine tl_iconst rfl ?_
        show jT _ _ 75 _ _ _ _
        refine tl_icmp_ne (tgt := 88) rfl rfl ⟨by omega, by omega⟩ ⟨by omega, by omega⟩ (fun c4 => ?_) (fun c4 => ?_)
        · skip
          refine tl_iconst rfl ?_
          refine tl_iadd rfl ?_
          refine tl_istore rfl (Nat.le_of_ble_eq_true rfl) rfl ?_
          refine tl_iinc rfl rfl rfl ?_
          refine tl_goto (tgt := 37) rfl rfl ?_
          show jT _ _ 37 _ _ _ _
          -- leaf 2 at 37
          have e1 : dpC (Q 0) k = 0 := by unfold dpC; rw [if_neg (by omega)]
          have e2 : dpS S (Q 0) k = 0 := by unfold dpS; rw [if_neg (by omega)]
          have r := ih (k + 1) (by omega) (by omega)
          rw [s1, s2, e1, e2] at r
          exact r
        · show jT _ _ 78 _ _ _ _
          refine tl_aload_n rfl rfl ?_
          show jT _ _ 79 _ _ _ _
          refine tl_getr (c := 12) (k9 := 40) (b := 409) rfl rfl rfl rfl ?_
          refine tl_iload rfl rfl ?_
          refine tl_iald (n := 100) rfl rfl rfl (by omega) (by omega) ?_
          rw [Int.toNat_natCast, show mem 409 k = S 2 k by omega]
          refine tl_goto (tgt := 89) rfl rfl ?_
          refine tl_iadd rfl ?_
          refine tl_istore rfl (Nat.le_of_ble_eq_true rfl) rfl ?_
          refine tl_iinc rfl rfl rfl ?_
          show jT _ _ 95 _ _ _ _
          refine tl_goto (tgt := 37) rfl rfl ?_
          show jT _ _ 37 _ _ _ _
          -- leaf 3 at 37
          exfalso; omega
      · show jT _ _ 58 _ _ _ _
        refine tl_iconst rfl ?_
        refine tl_goto (tgt := 63) rfl rfl ?_
        refine tl_iadd rfl ?_
        refine tl_istore_n rfl (Nat.le_of_ble_eq_true rfl) rfl ?_
        refine tl_iload rfl rfl ?_
        refine tl_aload_n rfl rfl ?_
        show jT _ _ 68 _ _ _ _
        refine tl_getr (c := 12) (k9 := 54) (b := 418) rfl rfl rfl rfl ?_
        refine tl_iload rfl rfl ?_
        refine tl_iald (n := 100) rfl rfl rfl (by omega) (by omega) ?_
        rw [Int.toNat_natCast, show mem 418 k = Q 0 k by omega]
        refine tl_iconst rfl ?_
        refine tl_icmp_ne (tgt := 88) rfl rfl ⟨by omega, by omega⟩ ⟨by omega, by omega⟩ (fun c5 => ?_) (fun c5 => ?_)
        · skip
          refine tl_iconst rfl ?_
          refine tl_iadd rfl ?_
          show jT _ _ 90 _ _ _ _
          refine tl_istore rfl (Nat.le_of_ble_eq_true rfl) rfl ?_
          refine tl_iinc rfl rfl rfl ?_
          refine tl_goto (tgt := 37) rfl rfl ?_
          show jT _ _ 37 _ _ _ _
          -- leaf 4 at 37
          exfalso; omega
        · show jT _ _ 78 _ _ _ _
          refine tl_aload_n rfl rfl ?_
          refine tl_getr (c := 12) (k9 := 40) (b := 409) rfl rfl rfl rfl ?_
          refine tl_iload rfl rfl ?_
          refine tl_iald (n := 100) rfl rfl rfl (by omega) (by omega) ?_
          rw [Int.toNat_natCast, show mem 409 k = S 2 k by omega]
          show jT _ _ 85 _ _ _ _
          refine tl_goto (tgt := 89) rfl rfl ?_
          refine tl_iadd rfl ?_
          refine tl_istore rfl (Nat.le_of_ble_eq_true rfl) rfl ?_
          refine tl_iinc rfl rfl rfl ?_
          refine tl_goto (tgt := 37) rfl rfl ?_
          show jT _ _ 37 _ _ _ _
          -- leaf 5 at 37
          have e1 : dpC (Q 0) k = 1 := by unfold dpC; rw [if_pos (by omega)]
          have e2 : dpS S (Q 0) k = S 2 k := by unfold dpS; rw [if_pos (by omega)]
          have r := ih (k + 1) (by omega) (by omega)
          rw [s1, s2, e1, e2] at r
          exact r
set_option maxRecDepth 20000 in
set_option maxHeartbeats 1000000 in
theorem r_dropped (l : Launch) (g h : jH) (t k i : Int) (hI0 : IC g h t) (hk : jr k) (hi : jr i) : cI l 305 [.ref 388, .int (jI k), .int (jI i)] h (PRF (Ddropped (Tz h) k i)) := by
  have k1 := hk.1
  have k2 := hk.2
  have i1 := hi.1
  have i2 := hi.2
  refine cI.of rfl rfl ?_
  refine tl_aload_n rfl rfl ?_
  refine tl_iconst rfl ?_
  refine tl_puti (c := 12) (k9 := 0) rfl rfl rfl rfl ?_
  have hI := hI0.z
  change jT _ _ _ _ _ (Tz h) _
  generalize Tz h = m at hI ⊢
  refine tl_iload_n rfl rfl ?_
  refine tl_i2l rfl ⟨by omega, by omega⟩ ?_
  refine tl_lconst (z := 0) rfl rfl ?_
  show jT _ _ 8 _ _ _ _
  refine tl_lconst (z := 1) rfl rfl ?_
  refine tl_s3i (c_in l _ _ _ _ ⟨by omega, by omega⟩ ⟨by omega, by omega⟩ ⟨by omega, by omega⟩) rfl rfl rfl (Nat.le_of_ble_eq_true rfl) (fun z3 h3 p3 => ?_)
  obtain ⟨q3, p3⟩ := p3
  have q3 := q3.symm
  subst q3
  have b3 : z3 = 0 ∨ z3 = 1 := by rw [p3]; split <;> omega
  refine tl_if_eq (tgt := 23) rfl rfl ⟨by omega, by omega⟩ (fun c1 => ?_) (fun c1 => ?_)
  · skip
    have cw : ¬ (0 ≤ i ∧ i ≤ 1) := fun c => by rw [if_pos c] at p3; omega
    refine tl_iconst rfl ?_
    refine tl_iret rfl ?_
    -- leaf 0 at 24
    refine ⟨_, rfl, ?_⟩
    first
      | (have e : Adrp (m 390) k i = -1 := by rw [Adrp, if_neg (fun w => by omega)]
         rw [Ddropped, e]
         exact PRF.rd RF.rfl9)
      | (have e : Adrp (m 390) k i = -1 := by rw [Adrp, if_neg (fun w => by have := w.2; rw [es] at this; exact absurd this (by decide))]
         rw [Ddropped, e]
         exact PRF.rd f1.rf)
  · show jT _ _ 15 _ _ _ _
    have cw : 0 ≤ i ∧ i ≤ 1 := by
      by_cases c : 0 ≤ i ∧ i ≤ 1
      · exact c
      · rw [if_neg c] at p3; omega
    refine tl_aload_n rfl rfl ?_
    refine tl_iload_n rfl rfl ?_
    show jT _ _ 17 _ _ _ _
    refine tl_v1i (c9 := 12) (r_isRead l m (m 390) rfl hI.ok hI.sok k ⟨by omega, by omega⟩) rfl rfl rfl rfl rfl (Nat.le_of_ble_eq_true rfl) (fun z1 h1 p1 => ?_)
    obtain ⟨e1, g1, f1⟩ := p1
    have b1 := zb_b (snd9 (m 390) k)
    subst e1
    refine tl_if_ne (tgt := 25) rfl rfl ⟨by omega, by omega⟩ (fun c2 => ?_) (fun c2 => ?_)
    · skip
      have es := zb1 c2
      have sb9 := sd_9 hI.sok es
      have n99 := sb9.1
      have oi := oQ_I (V := (slL (m 390) k))
      have oi2 := oi.2.2.1
      have wb := orW_b (S := rS (slL (m 390) k)) (n := rNp (slL (m 390) k))
      refine tl_aload_n rfl rfl ?_
      refine tl_v0v (c9 := 12) (r_layOrder l h1 (rS (slL (m 390) k)) (rNp (slL (m 390) k)) sb9 (g1 es).2.1 (g1 es).1.2.2.2.2) rfl rfl rfl rfl rfl (Nat.le_of_ble_eq_true rfl) (fun h2 p2 => ?_)
      obtain ⟨k9, f2⟩ := p2
      change ORR h2 (rNp (slL (m 390) k)) (oQ (slL (m 390) k)) at k9
      refine tl_iconst rfl ?_
      refine tl_istore_n rfl (Nat.le_of_ble_eq_true rfl) rfl ?_
      refine tl_iconst rfl ?_
      show jT _ _ 32 _ _ _ _
      refine tl_istore rfl (Nat.le_of_ble_eq_true rfl) rfl ?_
      refine tl_iconst rfl ?_
      refine tl_istore rfl (Nat.le_of_ble_eq_true rfl) rfl ?_
      show jT _ _ 37 _ _ _ _
      -- leaf 1 at 37
      refine r_dr_lp l h2 (rS (slL (m 390) k)) (rNp (slL (m 390) k)) sb9 ((g1 es).2.1.of (fun x x1 x2 => f2.1 x (by omega) (by omega) (by omega))) (by rw [f2.2 38 (by decide)]; exact (g1 es).1.2.2.2.2) (oQ (slL (m 390) k)) _ oi k9 k i cw _ ?_ _ 0 (Nat.lt_succ_self _) (Nat.zero_le _)
      refine ⟨_, rfl, ?_⟩
      have e : Adrp (m 390) k i = (if i = 0 then sm (dpC (oQ (slL (m 390) k) 0)) (rNp (slL (m 390) k)) else sm (dpS (rS (slL (m 390) k)) (oQ (slL (m 390) k) 0)) (rNp (slL (m 390) k))) := by rw [Adrp, if_pos ⟨by omega, es⟩]
      rw [Ddropped, e]
      exact PRF.rd (RF.lo f1 f2)
    · show jT _ _ 23 _ _ _ _
      have es := zb0' c2
      refine tl_iconst rfl ?_
      refine tl_iret rfl ?_
      -- leaf 2 at 24
      refine ⟨_, rfl, ?_⟩
      first
        | (have e : Adrp (m 390) k i = -1 := by rw [Adrp, if_neg (fun w => by omega)]
           rw [Ddropped, e]
           exact PRF.rd RF.rfl9)
        | (have e : Adrp (m 390) k i = -1 := by rw [Adrp, if_neg (fun w => by have := w.2; rw [es] at this; exact absurd this (by decide))]
           rw [Ddropped, e]
           exact PRF.rd f1.rf)
