/-! the least cost -/
def lm (f : Nat → Int) (L : Int) : Nat → Int
  | 0 => L
  | q + 1 => min (lm f L q) (f q)
def md (f : Nat → Int) (L : Int) : Nat → Int
  | 0 => L
  | q + 1 => min (md f L q) (f (64 - (q + 1)))
theorem lm_c (f : Nat → Int) (L : Int) : ∀ n, lm f L n ≤ L ∧ (∀ q, q < n → lm f L n ≤ f q) ∧ (lm f L n = L ∨ ∃ q, q < n ∧ lm f L n = f q) := by
  intro n
  induction n with
  | zero => exact ⟨Int.le_refl _, fun q hq => by omega, Or.inl rfl⟩
  | succ n ih =>
    obtain ⟨a, b, c⟩ := ih
    rw [lm]
    refine ⟨by omega, fun q hq => ?_, ?_⟩
    · by_cases e : q = n
      · subst e; omega
      · have := b q (by omega); omega
    · by_cases e : lm f L n ≤ f n
      · rw [show min (lm f L n) (f n) = lm f L n by omega]
        rcases c with c | ⟨q, q1, q2⟩
        · exact Or.inl c
        · exact Or.inr ⟨q, by omega, q2⟩
      · exact Or.inr ⟨n, by omega, by omega⟩
theorem md_c (f : Nat → Int) (L : Int) : ∀ n, n ≤ 64 → md f L n ≤ L ∧ (∀ q, 64 - n ≤ q → q < 64 → md f L n ≤ f q) ∧ (md f L n = L ∨ ∃ q, 64 - n ≤ q ∧ q < 64 ∧ md f L n = f q) := by
  intro n
  induction n with
  | zero => intro _; exact ⟨Int.le_refl _, fun q hq => by omega, Or.inl rfl⟩
  | succ n ih =>
    intro hn
    obtain ⟨a, b, c⟩ := ih (by omega)
    rw [md]
    refine ⟨by omega, fun q q1 q2 => ?_, ?_⟩
    · by_cases e : q = 64 - (n + 1)
      · subst e; omega
      · have := b q (by omega) q2; omega
    · by_cases e : md f L n ≤ f (64 - (n + 1))
      · rw [show min (md f L n) (f (64 - (n + 1))) = md f L n by omega]
        rcases c with c | ⟨q, q1, q2, q3⟩
        · exact Or.inl c
        · exact Or.inr ⟨q, by omega, q2, q3⟩
      · exact Or.inr ⟨64 - (n + 1), by omega, by omega, by omega⟩
theorem md_lm (f : Nat → Int) (L : Int) : md f L 64 = lm f L 64 := by
  obtain ⟨a, b, c⟩ := lm_c f L 64
  obtain ⟨d, e, g⟩ := md_c f L 64 (by omega)
  have x : md f L 64 ≤ lm f L 64 := by
    rcases c with c | ⟨q, q1, q2⟩
    · omega
    · have := e q (by omega) q1; omega
  have y : lm f L 64 ≤ md f L 64 := by
    rcases g with c | ⟨q, q1, q2, q3⟩
    · omega
    · have := b q q2; omega
  omega
def nxc (R c : Nat → Int) (L : Int) (k q : Nat) : Int := bif opn R q then min (L + 3) (if q = 0 then 1000000 else c (q - 1)) + (1 - zb (ali R k q)) else 1000000
def lcC (R : Nat → Int) : Nat → (Nat → Int) × Int
  | 0 => (fun _ => 1000000, 0)
  | k + 1 => (nxc R (lcC R k).1 (lcC R k).2 k, lm (nxc R (lcC R k).1 (lcC R k).2 k) ((lcC R k).2 + 2) 64)
theorem nxc_b {R c : Nat → Int} {L : Int} {k q : Nat} (hc : ∀ q, 0 ≤ c q ∧ c q ≤ 1000000) (L0 : 0 ≤ L) (L1 : L ≤ 900000) : 0 ≤ nxc R c L k q ∧ nxc R c L k q ≤ 1000000 := by
  have z := zb_b (ali R k q)
  rw [nxc]
  cases opn R q with
  | false => exact ⟨by show (0 : Int) ≤ 1000000; omega, by show (1000000 : Int) ≤ 1000000; omega⟩
  | true =>
    show 0 ≤ min (L + 3) (if q = 0 then 1000000 else c (q - 1)) + (1 - zb (ali R k q)) ∧ min (L + 3) (if q = 0 then 1000000 else c (q - 1)) + (1 - zb (ali R k q)) ≤ 1000000
    have := hc (q - 1)
    split <;> omega
theorem lcC_b {R : Nat → Int} : ∀ k : Nat, k ≤ 64 → (∀ q, 0 ≤ (lcC R k).1 q ∧ (lcC R k).1 q ≤ 1000000) ∧ 0 ≤ (lcC R k).2 ∧ (lcC R k).2 ≤ 2 * (k : Int) := by
  intro k
  induction k with
  | zero => intro _; exact ⟨fun q => ⟨by show (0 : Int) ≤ 1000000; omega, by show (1000000 : Int) ≤ 1000000; omega⟩, Int.le_refl _, Int.le_refl _⟩
  | succ k ih =>
    intro hk
    obtain ⟨a, b, c⟩ := ih (by omega)
    have hb : ∀ q, 0 ≤ nxc R (lcC R k).1 (lcC R k).2 k q ∧ nxc R (lcC R k).1 (lcC R k).2 k q ≤ 1000000 := fun q => nxc_b a b (by omega)
    obtain ⟨d, e, g⟩ := lm_c (nxc R (lcC R k).1 (lcC R k).2 k) ((lcC R k).2 + 2) 64
    refine ⟨hb, ?_, ?_⟩
    · show 0 ≤ lm (nxc R (lcC R k).1 (lcC R k).2 k) ((lcC R k).2 + 2) 64
      rcases g with g | ⟨q, q1, q2⟩
      · omega
      · have := hb q; omega
    · show lm (nxc R (lcC R k).1 (lcC R k).2 k) ((lcC R k).2 + 2) 64 ≤ _
      omega
theorem nxc_o {R c : Nat → Int} {L : Int} {k q : Nat} (h : opn R q = true) : nxc R c L k q = min (L + 3) (if q = 0 then 1000000 else c (q - 1)) + (1 - zb (ali R k q)) := by rw [nxc, h]; rfl
theorem nxc_n {R c : Nat → Int} {L : Int} {k q : Nat} (h : opn R q = false) : nxc R c L k q = 1000000 := by rw [nxc, h]; rfl
theorem hs_hs_same {h : jH} {i k : Nat} {y z : Int} : hs (hs h i k y) i k z = hs h i k z := by
  funext a b
  unfold hs
  split <;> rfl
def Alc (R : Nat → Int) : Int := (lcC R (R 70).toNat).2
set_option maxRecDepth 20000 in
set_option maxHeartbeats 1000000 in
theorem k_least_A (l : Launch) (h : jH) (R : Nat → Int) (hR : RS h 1 R) (P : Option Value → jH → Prop) (hx : ∀ mem, ((∀ q : Nat, q < 64 → mem 378 q = 1000000) ∧ ∀ x, x ≠ 378 → mem x = h x) → jT l 59 22 [some (.ref 377), some (.ref 1), some (.int (jI (64))), none, none, none, none, none] [] mem P) : ∀ (m : Nat) (k : Nat) (mem : jH), 64 - k < m → (k ≤ 64 ∧ (∀ q : Nat, q < k → mem 378 q = 1000000) ∧ ∀ x, x ≠ 378 → mem x = h x) → jT l 59 2 [some (.ref 377), some (.ref 1), some (.int (jI ((k : Int)))), none, none, none, none, none] [] mem P := by
  intro m
  induction m with
  | zero => intro k mem hk; omega
  | succ m ih =>
    intro k mem hk hi
    obtain ⟨i0, i1, fr⟩ := hi
    refine tl_iload_n rfl rfl ?_
    refine tl_bipush rfl rfl ?_
    refine tl_icmp_ge (tgt := 22) rfl rfl ⟨by omega, by omega⟩ ⟨by omega, by omega⟩ (fun c1 => ?_) (fun c1 => ?_)
    · skip
      show jT _ _ 22 _ _ _ _
      -- leaf 0 at 22
      have e : k = 64 := by omega
      subst e
      exact hx mem ⟨i1, fr⟩
    · show jT _ _ 8 _ _ _ _
      refine tl_aload_n rfl rfl ?_
      refine tl_getr (c := 5) (k9 := 3) (b := 378) rfl rfl rfl rfl ?_
      refine tl_iload_n rfl rfl ?_
      show jT _ _ 13 _ _ _ _
      refine tl_ldc (z := 1000000) rfl rfl (by decide +kernel) ?_
      refine tl_iast (n := 100) rfl rfl rfl (by omega) (by omega) ?_
      refine tl_iinc rfl rfl rfl ?_
      refine tl_goto (tgt := 2) rfl rfl ?_
      show jT _ _ 2 _ _ _ _
      -- leaf 1 at 2
      refine ih (k + 1) _ (by omega) ⟨by omega, fun q hq => ?_, fun x hx => ?_⟩
      · rw [Int.toNat_natCast]
        by_cases c : q = k
        · subst c; rw [hs_s]
        · rw [hs_k c]; exact i1 q (by omega)
      · rw [hs_O hx]; exact fr x hx
set_option maxRecDepth 20000 in
set_option maxHeartbeats 1000000 in
theorem k_least_C (l : Launch) (h : jH) (R : Nat → Int) (hR : RS h 1 R) (k : Nat) (hk7 : (k : Int) < R 70) (P : Option Value → jH → Prop) (hx : ∀ mem y4 y5 y6 y7, ((∀ q : Nat, q < 64 → mem 378 q = (lcC R (k + 1)).1 q) ∧ ∀ x, x ≠ 378 → mem x = h x) → jT l 59 135 [some (.ref 377), some (.ref 1), some (.int (jI ((lcC R (k + 1)).2))), some (.int (jI ((k : Int)))), y4, y5, y6, y7] [] mem P) : ∀ (m : Nat) (n : Nat) (mem : jH) (y6 : Option Value) (y7 : Option Value), n < m → (n ≤ 64 ∧ (∀ q : Nat, q < n → mem 378 q = (lcC R k).1 q) ∧ (∀ q : Nat, n ≤ q → q < 64 → mem 378 q = (nxc R (lcC R k).1 (lcC R k).2 k) q) ∧ ∀ x, x ≠ 378 → mem x = h x) → jT l 59 49 [some (.ref 377), some (.ref 1), some (.int (jI (md (nxc R (lcC R k).1 (lcC R k).2 k) ((lcC R k).2 + 2) (64 - n)))), some (.int (jI ((k : Int)))), some (.int (jI ((lcC R k).2 + 3))), some (.int (jI ((n : Int) - 1))), y6, y7] [] mem P := by
  have ok := hR.ok
  obtain ⟨k1, k2, k3, k4, k5, k6, k7⟩ := ok
  intro m
  induction m with
  | zero => intro n mem y6 y7 hk; omega
  | succ m ih =>
    intro n mem y6 y7 hk hi
    obtain ⟨i0, i1, i2, fr⟩ := hi
    have hRm : RS mem 1 R := hR.of (fun x x1 x2 => fr x (by omega))
    obtain ⟨b1, b2, b3⟩ := lcC_b (R := R) k (by omega)
    have b4 := b1 (n - 2)
    have b5 := md_c (nxc R (lcC R k).1 (lcC R k).2 k) ((lcC R k).2 + 2) (64 - n) (by omega)
    have b6 : ∀ q, 0 ≤ (nxc R (lcC R k).1 (lcC R k).2 k) q ∧ (nxc R (lcC R k).1 (lcC R k).2 k) q ≤ 1000000 := fun q => nxc_b b1 b2 (by omega)
    have b7 : 0 ≤ md (nxc R (lcC R k).1 (lcC R k).2 k) ((lcC R k).2 + 2) (64 - n) := by rcases b5.2.2 with c | ⟨q, q1, q2, q3⟩; omega; (have := b6 q; omega)
    have b8 := b5.1
    have em : n ≠ 0 → md (nxc R (lcC R k).1 (lcC R k).2 k) ((lcC R k).2 + 2) (64 - (n - 1)) = min (md (nxc R (lcC R k).1 (lcC R k).2 k) ((lcC R k).2 + 2) (64 - n)) ((nxc R (lcC R k).1 (lcC R k).2 k) (n - 1)) := fun h0 => by rw [show 64 - (n - 1) = 64 - n + 1 by omega, md, show 64 - (64 - n + 1) = n - 1 by omega]
    have nx2 : ∀ v6 v7, n ≠ 0 → jT l 59 49 [some (.ref 377), some (.ref 1), some (.int (jI (min (md (nxc R (lcC R k).1 (lcC R k).2 k) ((lcC R k).2 + 2) (64 - n)) (nxc R (lcC R k).1 (lcC R k).2 k (n - 1))))), some (.int (jI ((k : Int)))), some (.int (jI ((lcC R k).2 + 3))), some (.int (jI ((n : Int) - 1 + -1))), v6, v7] [] (hs mem 378 (n - 1) (nxc R (lcC R k).1 (lcC R k).2 k (n - 1))) P := by
      intro v6 v7 h0
      have := ih (n - 1) (hs mem 378 (n - 1) (nxc R (lcC R k).1 (lcC R k).2 k (n - 1))) v6 v7 (by omega) ⟨by omega, fun q hq => by rw [hs_k (by omega)]; exact i1 q (by omega), fun q q1 q2 => by by_cases c : q = n - 1; (subst c; rw [hs_s]); (rw [hs_k c]; exact i2 q (by omega) q2), fun x hx => by rw [hs_O hx]; exact fr x hx⟩
      rw [em h0, show ((n - 1 : Nat) : Int) - 1 = (n : Int) - 1 + -1 by omega] at this
      exact this
    have at113 : ∀ v7, n ≠ 0 → jT l 59 113 [some (.ref 377), some (.ref 1), some (.int (jI (md (nxc R (lcC R k).1 (lcC R k).2 k) ((lcC R k).2 + 2) (64 - n)))), some (.int (jI ((k : Int)))), some (.int (jI ((lcC R k).2 + 3))), some (.int (jI ((n : Int) - 1))), some (.int (jI ((nxc R (lcC R k).1 (lcC R k).2 k (n - 1))))), v7] [] mem P := by
      intro v7 h0
      have b9 := b6 (n - 1)
      refine tl_aload_n rfl rfl ?_
      refine tl_getr (c := 5) (k9 := 3) (b := 378) rfl rfl rfl rfl ?_
      refine tl_iload rfl rfl ?_
      refine tl_iload rfl rfl ?_
      refine tl_iast (n := 100) rfl rfl rfl (by omega) (by omega) ?_
      refine tl_iload_n rfl rfl ?_
      show jT _ _ 123 _ _ _ _
      refine tl_iload rfl rfl ?_
      refine tl_s2i (c_min l _ _ _ ⟨by omega, by omega⟩ ⟨by omega, by omega⟩) rfl rfl rfl (Nat.le_of_ble_eq_true rfl) (fun z4 h4 p4 => ?_)
      obtain ⟨q4, rfl⟩ := p4
      have q4 := q4.symm
      subst q4
      refine tl_istore_n rfl (Nat.le_of_ble_eq_true rfl) rfl ?_
      refine tl_iinc rfl rfl rfl ?_
      refine tl_goto (tgt := 49) rfl rfl ?_
      show jT _ _ 49 _ _ _ _
      -- leaf 0 at 49
      rw [show ((n : Int) - 1).toNat = n - 1 by omega]
      exact nx2 _ _ (by omega)
    refine tl_iload rfl rfl ?_
    refine tl_if_lt (tgt := 135) rfl rfl ⟨by omega, by omega⟩ (fun c1 => ?_) (fun c1 => ?_)
    · skip
      show jT _ _ 135 _ _ _ _
      -- leaf 0 at 135
      have e : n = 0 := by omega
      subst e
      have := hx mem (some (.int (jI ((lcC R k).2 + 3)))) (some (.int (jI (((0 : Nat) : Int) - 1)))) y6 y7 ⟨fun q hq => i2 q (by omega) hq, fr⟩
      rw [show (lcC R (k + 1)).2 = md (nxc R (lcC R k).1 (lcC R k).2 k) ((lcC R k).2 + 2) (64 - 0) from (md_lm _ _).symm] at this
      exact this
    · show jT _ _ 54 _ _ _ _
      have ec : (((n - 1 : Nat) : Int)) = (n : Int) - 1 := by omega
      refine tl_ldc (z := 1000000) rfl rfl (by decide +kernel) ?_
      refine tl_istore rfl (Nat.le_of_ble_eq_true rfl) rfl ?_
      refine tl_aload_n rfl rfl ?_
      refine tl_iload rfl rfl ?_
      show jT _ _ 61 _ _ _ _
      refine tl_v1i (c9 := 9) (k_isOpen l mem R hRm ((n : Int) - 1) ⟨by omega, by omega⟩) rfl rfl rfl rfl rfl (Nat.le_of_ble_eq_true rfl) (fun z1 h1 p1 => ?_)
      obtain ⟨q1, rfl⟩ := p1
      have q1 := q1.symm
      subst q1
      have b1 := zb_b (opn R ((n : Int) - 1))
      refine tl_if_eq (tgt := 113) rfl rfl ⟨by omega, by omega⟩ (fun c2 => ?_) (fun c2 => ?_)
      · skip
        have e1 := zb0 c2
        show jT _ _ 113 _ _ _ _
        -- leaf 1 at 113
        rw [← ec] at e1
        first
          | (refine jT.loc ?_ (at113 y7 (by omega)); rw [nxc_n e1]; rfl)
          | (rw [← ec] at e2; refine jT.loc ?_ (at113 (some (.int (jI (1000000)))) (by omega)); rw [nxc_o e1, if_pos (by omega), zb_t e2]; rfl)
          | (rw [← ec] at e2; refine jT.loc ?_ (at113 (some (.int (jI (1000000)))) (by omega)); rw [nxc_o e1, if_pos (by omega), zb_f e2]; rfl)
          | (rw [← ec] at e2; refine jT.loc ?_ (at113 (some (.int (jI ((lcC R k).1 (n - 2))))) (by omega)); rw [nxc_o e1, if_neg (by omega), zb_t e2, show n - 1 - 1 = n - 2 by omega]; rfl)
          | (rw [← ec] at e2; refine jT.loc ?_ (at113 (some (.int (jI ((lcC R k).1 (n - 2))))) (by omega)); rw [nxc_o e1, if_neg (by omega), zb_f e2, show n - 1 - 1 = n - 2 by omega]; rfl)
      · show jT _ _ 67 _ _ _ _
        have e1 := zb1' c2
        refine tl_iload rfl rfl ?_
        refine tl_if_ne (tgt := 77) rfl rfl ⟨by omega, by omega⟩ (fun c3 => ?_) (fun c3 => ?_)
        · skip
          refine tl_aload_n rfl rfl ?_
          refine tl_getr (c := 5) (k9 := 3) (b := 378) rfl rfl rfl rfl ?_
          refine tl_iload rfl rfl ?_
          show jT _ _ 83 _ _ _ _
          refine tl_iconst rfl ?_
          refine tl_isub rfl ?_
          refine tl_iald (n := 100) rfl rfl rfl (by omega) (by omega) ?_
          rw [show ((n : Int) - 1 - 1).toNat = n - 2 by omega, i1 (n - 2) (by omega)]
          refine tl_istore rfl (Nat.le_of_ble_eq_true rfl) rfl ?_
          refine tl_iload rfl rfl ?_
          refine tl_iload rfl rfl ?_
          refine tl_s2i (c_min l mem _ _ ⟨by omega, by omega⟩ ⟨by omega, by omega⟩) rfl rfl rfl (Nat.le_of_ble_eq_true rfl) (fun z2 h2 p2 => ?_)
          obtain ⟨q2, rfl⟩ := p2
          have q2 := q2.symm
          subst q2
          show jT _ _ 95 _ _ _ _
          refine tl_aload_n rfl rfl ?_
          refine tl_iload_n rfl rfl ?_
          refine tl_iload rfl rfl ?_
          refine tl_v2i (c9 := 9) (k_isAlike l mem R hRm ((k : Int)) ((n : Int) - 1) ⟨by omega, by omega⟩ ⟨by omega, by omega⟩) rfl rfl rfl rfl rfl (Nat.le_of_ble_eq_true rfl) (fun z3 h3 p3 => ?_)
          obtain ⟨q3, rfl⟩ := p3
          have q3 := q3.symm
          subst q3
          have b3 := zb_b (ali R ((k : Int)) ((n : Int) - 1))
          refine tl_if_eq (tgt := 109) rfl rfl ⟨by omega, by omega⟩ (fun c4 => ?_) (fun c4 => ?_)
          · skip
            have e2 := zb0 c4
            refine tl_iconst rfl ?_
            refine tl_iadd rfl ?_
            show jT _ _ 111 _ _ _ _
            refine tl_istore rfl (Nat.le_of_ble_eq_true rfl) rfl ?_
            show jT _ _ 113 _ _ _ _
            -- leaf 2 at 113
            rw [← ec] at e1
            first
              | (refine jT.loc ?_ (at113 y7 (by omega)); rw [nxc_n e1]; rfl)
              | (rw [← ec] at e2; refine jT.loc ?_ (at113 (some (.int (jI (1000000)))) (by omega)); rw [nxc_o e1, if_pos (by omega), zb_t e2]; rfl)
              | (rw [← ec] at e2; refine jT.loc ?_ (at113 (some (.int (jI (1000000)))) (by omega)); rw [nxc_o e1, if_pos (by omega), zb_f e2]; rfl)
              | (rw [← ec] at e2; refine jT.loc ?_ (at113 (some (.int (jI ((lcC R k).1 (n - 2))))) (by omega)); rw [nxc_o e1, if_neg (by omega), zb_t e2, show n - 1 - 1 = n - 2 by omega]; rfl)
              | (rw [← ec] at e2; refine jT.loc ?_ (at113 (some (.int (jI ((lcC R k).1 (n - 2))))) (by omega)); rw [nxc_o e1, if_neg (by omega), zb_f e2, show n - 1 - 1 = n - 2 by omega]; rfl)
          · show jT _ _ 105 _ _ _ _
            have e2 := zb1' c4
            refine tl_iconst rfl ?_
            refine tl_goto (tgt := 110) rfl rfl ?_
            refine tl_iadd rfl ?_
            refine tl_istore rfl (Nat.le_of_ble_eq_true rfl) rfl ?_
            show jT _ _ 113 _ _ _ _
            -- leaf 3 at 113
            rw [← ec] at e1
            first
              | (refine jT.loc ?_ (at113 y7 (by omega)); rw [nxc_n e1]; rfl)
              | (rw [← ec] at e2; refine jT.loc ?_ (at113 (some (.int (jI (1000000)))) (by omega)); rw [nxc_o e1, if_pos (by omega), zb_t e2]; rfl)
              | (rw [← ec] at e2; refine jT.loc ?_ (at113 (some (.int (jI (1000000)))) (by omega)); rw [nxc_o e1, if_pos (by omega), zb_f e2]; rfl)
              | (rw [← ec] at e2; refine jT.loc ?_ (at113 (some (.int (jI ((lcC R k).1 (n - 2))))) (by omega)); rw [nxc_o e1, if_neg (by omega), zb_t e2, show n - 1 - 1 = n - 2 by omega]; rfl)
              | (rw [← ec] at e2; refine jT.loc ?_ (at113 (some (.int (jI ((lcC R k).1 (n - 2))))) (by omega)); rw [nxc_o e1, if_neg (by omega), zb_f e2, show n - 1 - 1 = n - 2 by omega]; rfl)
        · show jT _ _ 72 _ _ _ _
          refine tl_ldc (z := 1000000) rfl rfl (by decide +kernel) ?_
          refine tl_goto (tgt := 86) rfl rfl ?_
          show jT _ _ 86 _ _ _ _
          refine tl_istore rfl (Nat.le_of_ble_eq_true rfl) rfl ?_
          refine tl_iload rfl rfl ?_
          refine tl_iload rfl rfl ?_
          refine tl_s2i (c_min l mem _ _ ⟨by omega, by omega⟩ ⟨by omega, by omega⟩) rfl rfl rfl (Nat.le_of_ble_eq_true rfl) (fun z2 h2 p2 => ?_)
          obtain ⟨q2, rfl⟩ := p2
          have q2 := q2.symm
          subst q2
          refine tl_aload_n rfl rfl ?_
          refine tl_iload_n rfl rfl ?_
          refine tl_iload rfl rfl ?_
          show jT _ _ 99 _ _ _ _
          refine tl_v2i (c9 := 9) (k_isAlike l mem R hRm ((k : Int)) ((n : Int) - 1) ⟨by omega, by omega⟩ ⟨by omega, by omega⟩) rfl rfl rfl rfl rfl (Nat.le_of_ble_eq_true rfl) (fun z3 h3 p3 => ?_)
          obtain ⟨q3, rfl⟩ := p3
          have q3 := q3.symm
          subst q3
          have b3 := zb_b (ali R ((k : Int)) ((n : Int) - 1))
          refine tl_if_eq (tgt := 109) rfl rfl ⟨by omega, by omega⟩ (fun c5 => ?_) (fun c5 => ?_)
          · skip
            have e2 := zb0 c5
            refine tl_iconst rfl ?_
            refine tl_iadd rfl ?_
            refine tl_istore rfl (Nat.le_of_ble_eq_true rfl) rfl ?_
            show jT _ _ 113 _ _ _ _
            -- leaf 4 at 113
            rw [← ec] at e1
            first
              | (refine jT.loc ?_ (at113 y7 (by omega)); rw [nxc_n e1]; rfl)
              | (rw [← ec] at e2; refine jT.loc ?_ (at113 (some (.int (jI (1000000)))) (by omega)); rw [nxc_o e1, if_pos (by omega), zb_t e2]; rfl)
              | (rw [← ec] at e2; refine jT.loc ?_ (at113 (some (.int (jI (1000000)))) (by omega)); rw [nxc_o e1, if_pos (by omega), zb_f e2]; rfl)
              | (rw [← ec] at e2; refine jT.loc ?_ (at113 (some (.int (jI ((lcC R k).1 (n - 2))))) (by omega)); rw [nxc_o e1, if_neg (by omega), zb_t e2, show n - 1 - 1 = n - 2 by omega]; rfl)
              | (rw [← ec] at e2; refine jT.loc ?_ (at113 (some (.int (jI ((lcC R k).1 (n - 2))))) (by omega)); rw [nxc_o e1, if_neg (by omega), zb_f e2, show n - 1 - 1 = n - 2 by omega]; rfl)
          · show jT _ _ 105 _ _ _ _
            have e2 := zb1' c5
            refine tl_iconst rfl ?_
            refine tl_goto (tgt := 110) rfl rfl ?_
            show jT _ _ 110 _ _ _ _
            refine tl_iadd rfl ?_
            refine tl_istore rfl (Nat.le_of_ble_eq_true rfl) rfl ?_
            show jT _ _ 113 _ _ _ _
            -- leaf 5 at 113
            rw [← ec] at e1
            first
              | (refine jT.loc ?_ (at113 y7 (by omega)); rw [nxc_n e1]; rfl)
              | (rw [← ec] at e2; refine jT.loc ?_ (at113 (some (.int (jI (1000000)))) (by omega)); rw [nxc_o e1, if_pos (by omega), zb_t e2]; rfl)
              | (rw [← ec] at e2; refine jT.loc ?_ (at113 (some (.int (jI (1000000)))) (by omega)); rw [nxc_o e1, if_pos (by omega), zb_f e2]; rfl)
              | (rw [← ec] at e2; refine jT.loc ?_ (at113 (some (.int (jI ((lcC R k).1 (n - 2))))) (by omega)); rw [nxc_o e1, if_neg (by omega), zb_t e2, show n - 1 - 1 = n - 2 by omega]; rfl)
              | (rw [← ec] at e2; refine jT.loc ?_ (at113 (some (.int (jI ((lcC R k).1 (n - 2))))) (by omega)); rw [nxc_o e1, if_neg (by omega), zb_f e2, show n - 1 - 1 = n - 2 by omega]; rfl)
set_option maxRecDepth 20000 in
set_option maxHeartbeats 1000000 in
theorem k_least_B (l : Launch) (h : jH) (R : Nat → Int) (hR : RS h 1 R) (P : Option Value → jH → Prop) (hP : ∀ mem, (∀ x, x ≠ 378 → mem x = h x) → P (some (.int (jI (Alc R)))) mem) : ∀ (m : Nat) (k : Nat) (mem : jH) (y4 : Option Value) (y5 : Option Value) (y6 : Option Value) (y7 : Option Value), (R 70).toNat - k < m → ((k : Int) ≤ R 70 ∧ (∀ q : Nat, q < 64 → mem 378 q = (lcC R k).1 q) ∧ ∀ x, x ≠ 378 → mem x = h x) → jT l 59 26 [some (.ref 377), some (.ref 1), some (.int (jI ((lcC R k).2))), some (.int (jI ((k : Int)))), y4, y5, y6, y7] [] mem P := by
  have ok := hR.ok
  obtain ⟨k1, k2, k3, k4, k5, k6, k7⟩ := ok
  intro m
  induction m with
  | zero => intro k mem y4 y5 y6 y7 hk; omega
  | succ m ih =>
    intro k mem y4 y5 y6 y7 hk hi
    obtain ⟨i0, i1, fr⟩ := hi
    have hRm : RS mem 1 R := hR.of (fun x x1 x2 => fr x (by omega))
    obtain ⟨b1, b2, b3⟩ := lcC_b (R := R) k (by omega)
    refine tl_iload_n rfl rfl ?_
    refine tl_aload_n rfl rfl ?_
    refine tl_getr (c := 9) (k9 := 1) (b := 4) rfl rfl rfl rfl ?_
    refine tl_geti (c := 8) (k9 := 1) rfl rfl rfl ?_
    rw [hRm.o70]
    refine tl_icmp_ge (tgt := 141) rfl rfl ⟨by omega, by omega⟩ ⟨by omega, by omega⟩ (fun c1 => ?_) (fun c1 => ?_)
    · skip
      refine tl_iload_n rfl rfl ?_
      show jT _ _ 142 _ _ _ _
      refine tl_iret rfl ?_
      -- leaf 0 at 142
      have e : k = (R 70).toNat := by omega
      rw [e]
      exact hP mem fr
    · show jT _ _ 37 _ _ _ _
      refine tl_iload_n rfl rfl ?_
      refine tl_iconst rfl ?_
      refine tl_iadd rfl ?_
      refine tl_istore rfl (Nat.le_of_ble_eq_true rfl) rfl ?_
      refine tl_iinc rfl rfl rfl ?_
      refine tl_bipush rfl rfl ?_
      show jT _ _ 47 _ _ _ _
      refine tl_istore rfl (Nat.le_of_ble_eq_true rfl) rfl ?_
      show jT _ _ 49 _ _ _ _
      -- leaf 1 at 49
      refine k_least_C l h R hR k (by omega) P (fun mem2 y4 y5 y6 y7 hj => ?_) _ 64 mem y6 y7 (Nat.lt_succ_self _) ⟨by omega, i1, fun q q1 q2 => by omega, fr⟩
      refine tl_iinc rfl rfl rfl ?_
      refine tl_goto (tgt := 26) rfl rfl ?_
      show jT _ _ 26 _ _ _ _
      -- leaf 0 at 26
      exact ih (k + 1) mem2 _ _ _ _ (by omega) ⟨by omega, hj.1, hj.2⟩
set_option maxRecDepth 20000 in
set_option maxHeartbeats 1000000 in
theorem k_leastCost (l : Launch) (h : jH) (R : Nat → Int) (hR : RS h 1 R) : cI l 59 [.ref 377, .ref 1] h (fun z h' => z = Alc R ∧ ∀ x, x ≠ 378 → h' x = h x) := by
  have ok := hR.ok
  obtain ⟨k1, k2, k3, k4, k5, k6, k7⟩ := ok
  refine cI.of rfl rfl ?_
  refine tl_iconst rfl ?_
  refine tl_istore_n rfl (Nat.le_of_ble_eq_true rfl) rfl ?_
  show jT _ _ 2 _ _ _ _
  -- leaf 0 at 2
  refine k_least_A l h R hR _ (fun mem hi => ?_) _ 0 h (Nat.lt_succ_self _) ⟨Nat.zero_le _, fun p hp => by omega, fun x _ => rfl⟩
  refine tl_iconst rfl ?_
  refine tl_istore_n rfl (Nat.le_of_ble_eq_true rfl) rfl ?_
  refine tl_iconst rfl ?_
  refine tl_istore_n rfl (Nat.le_of_ble_eq_true rfl) rfl ?_
  show jT _ _ 26 _ _ _ _
  -- leaf 0 at 26
  exact k_least_B l h R hR _ (fun mem2 fr => ⟨_, rfl, rfl, fr⟩) _ 0 mem _ _ _ _ (Nat.lt_succ_self _) ⟨by omega, hi.1, hi.2⟩
set_option maxRecDepth 20000 in
set_option maxHeartbeats 1000000 in
theorem r_canCopy (l : Launch) (mem : jH) (R : Nat → Int) (e390 : mem 390 = R) (ok : Rok R) (p : Int) (hp : jr p) : cI l 243 [.ref 388, .int (jI p)] mem (fun z h' => h' = mem ∧ z = zb (opn R p)) := by
  have ok9 := ok
  obtain ⟨k1, k2, k3, k4, k5, k6, k7⟩ := ok9
  have p1 := hp.1
  have p2 := hp.2
  refine cI.ofZ rfl rfl ?_
  refine tl_iload_n rfl rfl ?_
  refine tl_i2l rfl ⟨by omega, by omega⟩ ?_
  refine tl_lconst (z := 0) rfl rfl ?_
  refine tl_aload_n rfl rfl ?_
  refine tl_iconst rfl ?_
  refine tl_v1i (c9 := 12) (c_sizeOf l _ 0 (by decide) (by decide)) rfl rfl rfl rfl rfl (Nat.le_of_ble_eq_true rfl) (fun z1 h1 p1 => ?_)
  obtain ⟨q1, rfl⟩ := p1
  have q1 := q1.symm
  subst q1
  rw [show (5 + 65 * 0 : Int).toNat = 5 from rfl]
  rw [e390]
  show jT _ _ 8 _ _ _ _
  refine tl_i2l rfl ⟨by omega, by omega⟩ ?_
  refine tl_lconst (z := 1) rfl rfl ?_
  refine tl_lsub rfl ?_
  refine tl_s3i (c_in l _ _ _ _ ⟨by omega, by omega⟩ ⟨by omega, by omega⟩ ⟨by omega, by omega⟩) rfl rfl rfl (Nat.le_of_ble_eq_true rfl) (fun z2 h2 p2 => ?_)
  obtain ⟨q2, p2⟩ := p2
  have q2 := q2.symm
  subst q2
  have b2 : z2 = 0 ∨ z2 = 1 := by rw [p2]; split <;> omega
  refine tl_if_eq (tgt := 29) rfl rfl ⟨by omega, by omega⟩ (fun c1 => ?_) (fun c1 => ?_)
  · skip
    refine tl_iconst rfl ?_
    refine tl_iret rfl ?_
    -- leaf 0 at 30
    refine ⟨_, rfl, by omega, rfl, ?_⟩
    first | exact (zb_f (opn_f (by omega))).symm | exact (zb_t (opn_t' (by omega))).symm
  · show jT _ _ 17 _ _ _ _
    show jT _ _ 17 _ _ _ _
    refine tl_aload_n rfl rfl ?_
    refine tl_iload_n rfl rfl ?_
    refine tl_v1i (c9 := 12) (c_isBarred l mem p (by omega) (by omega) (by rw [e390, show (1103 + p).toNat = 1103 + p.toNat by omega]; have := k7 p.toNat (by omega); exact ⟨by omega, by omega⟩)) rfl rfl rfl rfl rfl (Nat.le_of_ble_eq_true rfl) (fun z3 h3 p3 => ?_)
    obtain ⟨q3, p3⟩ := p3
    have q3 := q3.symm
    subst q3
    rw [e390, show (1103 + p).toNat = 1103 + p.toNat by omega] at p3
    have b3 := k7 p.toNat (by omega)
    have z03 : z3 = R (1103 + p.toNat) := by rw [p3]; split <;> omega
    refine tl_if_ne (tgt := 29) rfl rfl ⟨by omega, by omega⟩ (fun c2 => ?_) (fun c2 => ?_)
    · skip
      refine tl_iconst rfl ?_
      refine tl_iret rfl ?_
      -- leaf 1 at 30
      refine ⟨_, rfl, by omega, rfl, ?_⟩
      first | exact (zb_f (opn_f (by omega))).symm | exact (zb_t (opn_t' (by omega))).symm
    · show jT _ _ 25 _ _ _ _
      refine tl_iconst rfl ?_
      show jT _ _ 26 _ _ _ _
      refine tl_goto (tgt := 30) rfl rfl ?_
      refine tl_iret rfl ?_
      -- leaf 2 at 30
      refine ⟨_, rfl, by omega, rfl, ?_⟩
      first | exact (zb_f (opn_f (by omega))).symm | exact (zb_t (opn_t' (by omega))).symm
set_option maxRecDepth 20000 in
set_option maxHeartbeats 1000000 in
theorem r_least_A (l : Launch) (h : jH) (R : Nat → Int) (hR : h 390 = R) (ok : Rok R) (P : Option Value → jH → Prop) (hx : ∀ mem, ((∀ q : Nat, q < 64 → mem 429 q = 1000000) ∧ ∀ x, x ≠ 429 → x ≠ 430 → mem x = h x) → jT l 343 25 [some (.ref 388), some (.int (jI (0))), some (.int (jI (64))), none, none, none] [] mem P) : ∀ (m : Nat) (k : Nat) (mem : jH), 64 - k < m → (k ≤ 64 ∧ (∀ q : Nat, q < k → mem 429 q = 1000000) ∧ ∀ x, x ≠ 429 → x ≠ 430 → mem x = h x) → jT l 343 4 [some (.ref 388), some (.int (jI (0))), some (.int (jI ((k : Int)))), none, none, none] [] mem P := by
  intro m
  induction m with
  | zero => intro k mem hk; omega
  | succ m ih =>
    intro k mem hk hi
    obtain ⟨i0, i1, fr⟩ := hi
    refine tl_iload_n rfl rfl ?_
    refine tl_bipush rfl rfl ?_
    refine tl_icmp_ge (tgt := 25) rfl rfl ⟨by omega, by omega⟩ ⟨by omega, by omega⟩ (fun c1 => ?_) (fun c1 => ?_)
    · skip
      show jT _ _ 25 _ _ _ _
      -- leaf 0 at 25
      have e : k = 64 := by omega
      subst e
      exact hx mem ⟨i1, fr⟩
    · show jT _ _ 10 _ _ _ _
      refine tl_aload_n rfl rfl ?_
      refine tl_getr (c := 12) (k9 := 77) (b := 429) rfl rfl rfl rfl ?_
      refine tl_iload_n rfl rfl ?_
      show jT _ _ 15 _ _ _ _
      refine tl_ldcw (z := 1000000) rfl rfl (by decide +kernel) ?_
      refine tl_iast (n := 64) rfl rfl rfl (by omega) (by omega) ?_
      refine tl_iinc rfl rfl rfl ?_
      refine tl_goto (tgt := 4) rfl rfl ?_
      show jT _ _ 4 _ _ _ _
      -- leaf 1 at 4
      refine ih (k + 1) _ (by omega) ⟨by omega, fun q hq => ?_, fun x hx hx2 => ?_⟩
      · rw [Int.toNat_natCast]
        by_cases c : q = k
        · subst c; rw [hs_s]
        · rw [hs_k c]; exact i1 q (by omega)
      · rw [hs_O hx]; exact fr x hx hx2
set_option maxRecDepth 20000 in
set_option maxHeartbeats 1000000 in
theorem r_least_C (l : Launch) (h : jH) (R : Nat → Int) (hR : h 390 = R) (ok : Rok R) (k : Nat) (hk7 : (k : Int) < R 70) (P : Option Value → jH → Prop) (hx : ∀ mem y5, ((∀ q : Nat, q < 64 → mem 430 q = (lcC R (k + 1)).1 q) ∧ ∀ x, x ≠ 429 → x ≠ 430 → mem x = h x) → jT l 343 166 [some (.ref 388), some (.int (jI ((lcC R k).2))), some (.int (jI ((k : Int)))), some (.int (jI ((lcC R (k + 1)).2))), some (.int (jI (64))), y5] [] mem P) : ∀ (m : Nat) (n : Nat) (mem : jH) (y5 : Option Value), 64 - n < m → (n ≤ 64 ∧ (∀ q : Nat, q < 64 → mem 429 q = (lcC R k).1 q) ∧ (∀ q : Nat, q < n → mem 430 q = (nxc R (lcC R k).1 (lcC R k).2 k) q) ∧ ∀ x, x ≠ 429 → x ≠ 430 → mem x = h x) → jT l 343 43 [some (.ref 388), some (.int (jI ((lcC R k).2))), some (.int (jI ((k : Int)))), some (.int (jI (lm (nxc R (lcC R k).1 (lcC R k).2 k) ((lcC R k).2 + 2) n))), some (.int (jI ((n : Int)))), y5] [] mem P := by
  have ok9 := ok
  obtain ⟨k1, k2, k3, k4, k5, k6, k7⟩ := ok9
  intro m
  induction m with
  | zero => intro n mem y5 hk; omega
  | succ m ih =>
    intro n mem y5 hk hi
    obtain ⟨i0, i1, i2, fr⟩ := hi
    have e390 : mem 390 = R := by rw [fr 390 (by decide) (by decide)]; exact hR
    obtain ⟨b1, b2, b3⟩ := lcC_b (R := R) k (by omega)
    have b4 := b1 (n - 1)
    have b5 := lm_c (nxc R (lcC R k).1 (lcC R k).2 k) ((lcC R k).2 + 2) n
    have b6 : ∀ q, 0 ≤ (nxc R (lcC R k).1 (lcC R k).2 k) q ∧ (nxc R (lcC R k).1 (lcC R k).2 k) q ≤ 1000000 := fun q => nxc_b b1 b2 (by omega)
    have b7 : 0 ≤ lm (nxc R (lcC R k).1 (lcC R k).2 k) ((lcC R k).2 + 2) n := by rcases b5.2.2 with c | ⟨q, q1, q3⟩; omega; (have := b6 q; omega)
    have b8 := b5.1
    clear b5
    have b9 := b6 n
    have em : lm (nxc R (lcC R k).1 (lcC R k).2 k) ((lcC R k).2 + 2) (n + 1) = min (lm (nxc R (lcC R k).1 (lcC R k).2 k) ((lcC R k).2 + 2) n) ((nxc R (lcC R k).1 (lcC R k).2 k) n) := rfl
    have nx2 : ∀ v5 v (mm : jH), n < 64 → v = min (lm (nxc R (lcC R k).1 (lcC R k).2 k) ((lcC R k).2 + 2) n) ((nxc R (lcC R k).1 (lcC R k).2 k) n) → mm = hs mem 430 n (nxc R (lcC R k).1 (lcC R k).2 k n) → jT l 343 43 [some (.ref 388), some (.int (jI ((lcC R k).2))), some (.int (jI ((k : Int)))), some (.int (jI (v))), some (.int (jI ((n : Int) + 1))), v5] [] mm P := by
      intro v5 v mm h0 hv hm
      have := ih (n + 1) (hs mem 430 n (nxc R (lcC R k).1 (lcC R k).2 k n)) v5 (by omega) ⟨by omega, fun q hq => by rw [hs_o (by decide)]; exact i1 q hq, fun q hq => by by_cases c : q = n; (subst c; rw [hs_s]); (rw [hs_k c]; exact i2 q (by omega)), fun x hx hx2 => by rw [hs_O hx2]; exact fr x hx hx2⟩
      rw [em, ← hv, ← hm] at this
      exact this
    refine tl_iload rfl rfl ?_
    refine tl_bipush rfl rfl ?_
    refine tl_icmp_ge (tgt := 166) rfl rfl ⟨by omega, by omega⟩ ⟨by omega, by omega⟩ (fun c1 => ?_) (fun c1 => ?_)
    · skip
      show jT _ _ 166 _ _ _ _
      -- leaf 0 at 166
      have e : n = 64 := by omega
      subst e
      exact hx mem y5 ⟨fun q hq => i2 q hq, fr⟩
    · show jT _ _ 50 _ _ _ _
      refine tl_aload_n rfl rfl ?_
      refine tl_getr (c := 12) (k9 := 78) (b := 430) rfl rfl rfl rfl ?_
      refine tl_iload rfl rfl ?_
      show jT _ _ 56 _ _ _ _
      refine tl_ldcw (z := 1000000) rfl rfl (by decide +kernel) ?_
      refine tl_iast (n := 64) rfl rfl rfl (by omega) (by omega) ?_
      refine tl_aload_n rfl rfl ?_
      refine tl_iload rfl rfl ?_
      refine tl_v1i (c9 := 12) (r_canCopy l _ R (by rw [hs_O (by decide)]; exact e390) ok (n : Int) ⟨by omega, by omega⟩) rfl rfl rfl rfl rfl (Nat.le_of_ble_eq_true rfl) (fun z1 h1 p1 => ?_)
      obtain ⟨q1, rfl⟩ := p1
      have q1 := q1.symm
      subst q1
      have c1b := zb_b (opn R (n : Int))
      refine tl_if_eq (tgt := 160) rfl rfl ⟨by omega, by omega⟩ (fun c2 => ?_) (fun c2 => ?_)
      · skip
        have e1 := zb0 c2
        refine tl_iinc rfl rfl rfl ?_
        show jT _ _ 163 _ _ _ _
        refine tl_goto (tgt := 43) rfl rfl ?_
        show jT _ _ 43 _ _ _ _
        -- leaf 1 at 43
        rw [Int.toNat_natCast]
        first
          | (have en := nxc_n (c := (lcC R k).1) (L := (lcC R k).2) (k := k) e1; exact nx2 _ _ _ (by omega) (by omega) (by rw [en]))
          | (have en := nxc_o (c := (lcC R k).1) (L := (lcC R k).2) (k := k) e1
             have ea : zb (ali R k n) = 1 := zb_t (ali_t e1 ⟨by omega, by omega, by rw [Int.toNat_natCast, Int.toNat_natCast]; omega⟩)
             rw [ea] at en
             first | rw [if_pos (by omega)] at en | rw [if_neg (by omega)] at en
             refine nx2 _ _ _ (by omega) (by omega) ?_
             rw [hs_hs_same]
             exact congrArg (hs mem 430 n) (by omega))
          | (have en := nxc_o (c := (lcC R k).1) (L := (lcC R k).2) (k := k) e1
             have ea : zb (ali R k n) = 0 := zb_f (ali_f2 (by rw [Int.toNat_natCast, Int.toNat_natCast]; omega))
             rw [ea] at en
             first | rw [if_pos (by omega)] at en | rw [if_neg (by omega)] at en
             refine nx2 _ _ _ (by omega) (by omega) ?_
             rw [hs_hs_same]
             exact congrArg (hs mem 430 n) (by omega))
      · show jT _ _ 69 _ _ _ _
        have e1 := zb1' c2
        refine tl_iload rfl rfl ?_
        refine tl_if_le (tgt := 101) rfl rfl ⟨by omega, by omega⟩ (fun c3 => ?_) (fun c3 => ?_)
        · skip
          refine tl_iload_n rfl rfl ?_
          refine tl_iconst rfl ?_
          refine tl_iadd rfl ?_
          refine tl_istore rfl (Nat.le_of_ble_eq_true rfl) rfl ?_
          show jT _ _ 106 _ _ _ _
          refine tl_aload_n rfl rfl ?_
          refine tl_getr (c := 12) (k9 := 78) (b := 430) rfl rfl rfl rfl ?_
          refine tl_iload rfl rfl ?_
          refine tl_iload rfl rfl ?_
          refine tl_aload_n rfl rfl ?_
          refine tl_iconst rfl ?_
          refine tl_iload_n rfl rfl ?_
          show jT _ _ 117 _ _ _ _
          refine tl_v2i (c9 := 12) (c_at l _ 1 ((k : Int)) (by decide) (by decide) (by omega) (by omega)) rfl rfl rfl rfl rfl (Nat.le_of_ble_eq_true rfl) (fun z2 h2 p2 => ?_)
          obtain ⟨q2, p2⟩ := p2
          have q2 := q2.symm
          subst q2
          rw [show ((6 : Int) + 65 * 1 + ((k : Int))).toNat = 71 + ((k : Int)).toNat by omega, hs_O (show (390 : Nat) ≠ 430 by decide), e390] at p2
          rw [Int.toNat_natCast] at p2
          have y2 := k6 k (by omega)
          have ya2 := y2.1
          have yb2 := y2.2
          refine tl_aload_n rfl rfl ?_
          refine tl_iconst rfl ?_
          refine tl_iload rfl rfl ?_
          refine tl_v2i (c9 := 12) (c_at l _ 0 ((n : Int)) (by decide) (by decide) (by omega) (by omega)) rfl rfl rfl rfl rfl (Nat.le_of_ble_eq_true rfl) (fun z3 h3 p3 => ?_)
          obtain ⟨q3, p3⟩ := p3
          have q3 := q3.symm
          subst q3
          rw [show ((6 : Int) + 65 * 0 + ((n : Int))).toNat = 6 + ((n : Int)).toNat by omega, hs_O (show (390 : Nat) ≠ 430 by decide), e390] at p3
          rw [Int.toNat_natCast] at p3
          have oo := opn_t e1
          have y3 := k5 n (by omega)
          have ya3 := y3.1
          have yb3 := y3.2
          refine tl_icmp_ne (tgt := 134) rfl rfl ⟨by omega, by omega⟩ ⟨by omega, by omega⟩ (fun c4 => ?_) (fun c4 => ?_)
          · skip
            refine tl_iconst rfl ?_
            show jT _ _ 135 _ _ _ _
            refine tl_iadd rfl ?_
            refine tl_iast (n := 64) rfl rfl rfl (by omega) (by omega) ?_
            refine tl_aload_n rfl rfl ?_
            refine tl_getr (c := 12) (k9 := 78) (b := 430) rfl rfl rfl rfl ?_
            refine tl_iload rfl rfl ?_
            refine tl_iald (n := 64) rfl rfl rfl (by omega) (by omega) ?_
            rw [hs_s]
            refine tl_iload_n rfl rfl ?_
            show jT _ _ 145 _ _ _ _
            refine tl_icmp_ge (tgt := 158) rfl rfl ⟨by omega, by omega⟩ ⟨by omega, by omega⟩ (fun c5 => ?_) (fun c5 => ?_)
            · skip
              refine tl_iload_n rfl rfl ?_
              refine tl_istore_n rfl (Nat.le_of_ble_eq_true rfl) rfl ?_
              refine tl_iinc rfl rfl rfl ?_
              refine tl_goto (tgt := 43) rfl rfl ?_
              show jT _ _ 43 _ _ _ _
              -- leaf 2 at 43
              rw [Int.toNat_natCast]
              first
                | (have en := nxc_n (c := (lcC R k).1) (L := (lcC R k).2) (k := k) e1; exact nx2 _ _ _ (by omega) (by omega) (by rw [en]))
                | (have en := nxc_o (c := (lcC R k).1) (L := (lcC R k).2) (k := k) e1
                   have ea : zb (ali R k n) = 1 := zb_t (ali_t e1 ⟨by omega, by omega, by rw [Int.toNat_natCast, Int.toNat_natCast]; omega⟩)
                   rw [ea] at en
                   first | rw [if_pos (by omega)] at en | rw [if_neg (by omega)] at en
                   refine nx2 _ _ _ (by omega) (by omega) ?_
                   rw [hs_hs_same]
                   exact congrArg (hs mem 430 n) (by omega))
                | (have en := nxc_o (c := (lcC R k).1) (L := (lcC R k).2) (k := k) e1
                   have ea : zb (ali R k n) = 0 := zb_f (ali_f2 (by rw [Int.toNat_natCast, Int.toNat_natCast]; omega))
                   rw [ea] at en
                   first | rw [if_pos (by omega)] at en | rw [if_neg (by omega)] at en
                   refine nx2 _ _ _ (by omega) (by omega) ?_
                   rw [hs_hs_same]
                   exact congrArg (hs mem 430 n) (by omega))
            · show jT _ _ 148 _ _ _ _
              refine tl_aload_n rfl rfl ?_
              refine tl_getr (c := 12) (k9 := 78) (b := 430) rfl rfl rfl rfl ?_
              show jT _ _ 152 _ _ _ _
              refine tl_iload rfl rfl ?_
              refine tl_iald (n := 64) rfl rfl rfl (by omega) (by omega) ?_
              rw [hs_s]
              refine tl_goto (tgt := 159) rfl rfl ?_
              refine tl_istore_n rfl (Nat.le_of_ble_eq_true rfl) rfl ?_
              refine tl_iinc rfl rfl rfl ?_
              refine tl_goto (tgt := 43) rfl rfl ?_
              show jT _ _ 43 _ _ _ _
              -- leaf 3 at 43
              rw [Int.toNat_natCast]
              first
                | (have en := nxc_n (c := (lcC R k).1) (L := (lcC R k).2) (k := k) e1; exact nx2 _ _ _ (by omega) (by omega) (by rw [en]))
                | (have en := nxc_o (c := (lcC R k).1) (L := (lcC R k).2) (k := k) e1
                   have ea : zb (ali R k n) = 1 := zb_t (ali_t e1 ⟨by omega, by omega, by rw [Int.toNat_natCast, Int.toNat_natCast]; omega⟩)
                   rw [ea] at en
                   first | rw [if_pos (by omega)] at en | rw [if_neg (by omega)] at en
                   refine nx2 _ _ _ (by omega) (by omega) ?_
                   rw [hs_hs_same]
                   exact congrArg (hs mem 430 n) (by omega))
                | (have en := nxc_o (c := (lcC R k).1) (L := (lcC R k).2) (k := k) e1
                   have ea : zb (ali R k n) = 0 := zb_f (ali_f2 (by rw [Int.toNat_natCast, Int.toNat_natCast]; omega))
                   rw [ea] at en
                   first | rw [if_pos (by omega)] at en | rw [if_neg (by omega)] at en
                   refine nx2 _ _ _ (by omega) (by omega) ?_
                   rw [hs_hs_same]
                   exact congrArg (hs mem 430 n) (by omega))
          · show jT _ _ 130 _ _ _ _
            refine tl_iconst rfl ?_
            show jT _ _ 131 _ _ _ _
            refine tl_goto (tgt := 135) rfl rfl ?_
            refine tl_iadd rfl ?_
            refine tl_iast (n := 64) rfl rfl rfl (by omega) (by omega) ?_
            refine tl_aload_n rfl rfl ?_
            refine tl_getr (c := 12) (k9 := 78) (b := 430) rfl rfl rfl rfl ?_
            refine tl_iload rfl rfl ?_
            refine tl_iald (n := 64) rfl rfl rfl (by omega) (by omega) ?_
            rw [hs_s]
            show jT _ _ 144 _ _ _ _
            refine tl_iload_n rfl rfl ?_
            refine tl_icmp_ge (tgt := 158) rfl rfl ⟨by omega, by omega⟩ ⟨by omega, by omega⟩ (fun c6 => ?_) (fun c6 => ?_)
            · skip
              refine tl_iload_n rfl rfl ?_
              refine tl_istore_n rfl (Nat.le_of_ble_eq_true rfl) rfl ?_
              refine tl_iinc rfl rfl rfl ?_
              refine tl_goto (tgt := 43) rfl rfl ?_
              show jT _ _ 43 _ _ _ _
              -- leaf 4 at 43
              rw [Int.toNat_natCast]
              first
                | (have en := nxc_n (c := (lcC R k).1) (L := (lcC R k).2) (k := k) e1; exact nx2 _ _ _ (by omega) (by omega) (by rw [en]))
                | (have en := nxc_o (c := (lcC R k).1) (L := (lcC R k).2) (k := k) e1
                   have ea : zb (ali R k n) = 1 := zb_t (ali_t e1 ⟨by omega, by omega, by rw [Int.toNat_natCast, Int.toNat_natCast]; omega⟩)
                   rw [ea] at en
                   first | rw [if_pos (by omega)] at en | rw [if_neg (by omega)] at en
                   refine nx2 _ _ _ (by omega) (by omega) ?_
                   rw [hs_hs_same]
                   exact congrArg (hs mem 430 n) (by omega))
                | (have en := nxc_o (c := (lcC R k).1) (L := (lcC R k).2) (k := k) e1
                   have ea : zb (ali R k n) = 0 := zb_f (ali_f2 (by rw [Int.toNat_natCast, Int.toNat_natCast]; omega))
                   rw [ea] at en
                   first | rw [if_pos (by omega)] at en | rw [if_neg (by omega)] at en
                   refine nx2 _ _ _ (by omega) (by omega) ?_
                   rw [hs_hs_same]
                   exact congrArg (hs mem 430 n) (by omega))
            · show jT _ _ 148 _ _ _ _
              refine tl_aload_n rfl rfl ?_
              show jT _ _ 149 _ _ _ _
              refine tl_getr (c := 12) (k9 := 78) (b := 430) rfl rfl rfl rfl ?_
              refine tl_iload rfl rfl ?_
              refine tl_iald (n := 64) rfl rfl rfl (by omega) (by omega) ?_
              rw [hs_s]
              refine tl_goto (tgt := 159) rfl rfl ?_
              refine tl_istore_n rfl (Nat.le_of_ble_eq_true rfl) rfl ?_
              refine tl_iinc rfl rfl rfl ?_
              refine tl_goto (tgt := 43) rfl rfl ?_
              show jT _ _ 43 _ _ _ _
              -- leaf 5 at 43
              rw [Int.toNat_natCast]
              first
                | (have en := nxc_n (c := (lcC R k).1) (L := (lcC R k).2) (k := k) e1; exact nx2 _ _ _ (by omega) (by omega) (by rw [en]))
                | (have en := nxc_o (c := (lcC R k).1) (L := (lcC R k).2) (k := k) e1
                   have ea : zb (ali R k n) = 1 := zb_t (ali_t e1 ⟨by omega, by omega, by rw [Int.toNat_natCast, Int.toNat_natCast]; omega⟩)
                   rw [ea] at en
                   first | rw [if_pos (by omega)] at en | rw [if_neg (by omega)] at en
                   refine nx2 _ _ _ (by omega) (by omega) ?_
                   rw [hs_hs_same]
                   exact congrArg (hs mem 430 n) (by omega))
                | (have en := nxc_o (c := (lcC R k).1) (L := (lcC R k).2) (k := k) e1
                   have ea : zb (ali R k n) = 0 := zb_f (ali_f2 (by rw [Int.toNat_natCast, Int.toNat_natCast]; omega))
                   rw [ea] at en
                   first | rw [if_pos (by omega)] at en | rw [if_neg (by omega)] at en
                   refine nx2 _ _ _ (by omega) (by omega) ?_
                   rw [hs_hs_same]
                   exact congrArg (hs mem 430 n) (by omega))
        · show jT _ _ 74 _ _ _ _
          show jT _ _ 74 _ _ _ _
          refine tl_aload_n rfl rfl ?_
          refine tl_getr (c := 12) (k9 := 77) (b := 429) rfl rfl rfl rfl ?_
          refine tl_iload rfl rfl ?_
          refine tl_iconst rfl ?_
          refine tl_isub rfl ?_
          refine tl_iald (n := 64) rfl rfl rfl (by omega) (by omega) ?_
          rw [hs_o (show (429 : Nat) ≠ 430 by decide), show ((n : Int) - 1).toNat = n - 1 by omega, i1 (n - 1) (by omega)]
          refine tl_iload_n rfl rfl ?_
          show jT _ _ 84 _ _ _ _
          refine tl_iconst rfl ?_
          refine tl_iadd rfl ?_
          refine tl_icmp_ge (tgt := 101) rfl rfl ⟨by omega, by omega⟩ ⟨by omega, by omega⟩ (fun c7 => ?_) (fun c7 => ?_)
          · skip
            refine tl_iload_n rfl rfl ?_
            refine tl_iconst rfl ?_
            refine tl_iadd rfl ?_
            refine tl_istore rfl (Nat.le_of_ble_eq_true rfl) rfl ?_
            show jT _ _ 106 _ _ _ _
            refine tl_aload_n rfl rfl ?_
            refine tl_getr (c := 12) (k9 := 78) (b := 430) rfl rfl rfl rfl ?_
            refine tl_iload rfl rfl ?_
            refine tl_iload rfl rfl ?_
            refine tl_aload_n rfl rfl ?_
            refine tl_iconst rfl ?_
            refine tl_iload_n rfl rfl ?_
            show jT _ _ 117 _ _ _ _
            refine tl_v2i (c9 := 12) (c_at l _ 1 ((k : Int)) (by decide) (by decide) (by omega) (by omega)) rfl rfl rfl rfl rfl (Nat.le_of_ble_eq_true rfl) (fun z2 h2 p2 => ?_)
            obtain ⟨q2, p2⟩ := p2
            have q2 := q2.symm
            subst q2
            rw [show ((6 : Int) + 65 * 1 + ((k : Int))).toNat = 71 + ((k : Int)).toNat by omega, hs_O (show (390 : Nat) ≠ 430 by decide), e390] at p2
            rw [Int.toNat_natCast] at p2
            have y2 := k6 k (by omega)
            have ya2 := y2.1
            have yb2 := y2.2
            refine tl_aload_n rfl rfl ?_
            refine tl_iconst rfl ?_
            refine tl_iload rfl rfl ?_
            refine tl_v2i (c9 := 12) (c_at l _ 0 ((n : Int)) (by decide) (by decide) (by omega) (by omega)) rfl rfl rfl rfl rfl (Nat.le_of_ble_eq_true rfl) (fun z3 h3 p3 => ?_)
            obtain ⟨q3, p3⟩ := p3
            have q3 := q3.symm
            subst q3
            rw [show ((6 : Int) + 65 * 0 + ((n : Int))).toNat = 6 + ((n : Int)).toNat by omega, hs_O (show (390 : Nat) ≠ 430 by decide), e390] at p3
            rw [Int.toNat_natCast] at p3
            have oo := opn_t e1
            have y3 := k5 n (by omega)
            have ya3 := y3.1
            have yb3 := y3.2
            refine tl_icmp_ne (tgt := 134) rfl rfl ⟨by omega, by omega⟩ ⟨by omega, by omega⟩ (fun c8 => ?_) (fun c8 => ?_)
            · skip
              refine tl_iconst rfl ?_
              show jT _ _ 135 _ _ _ _
              refine tl_iadd rfl ?_
              refine tl_iast (n := 64) rfl rfl rfl (by omega) (by omega) ?_
              refine tl_aload_n rfl rfl ?_
              refine tl_getr (c := 12) (k9 := 78) (b := 430) rfl rfl rfl rfl ?_
              refine tl_iload rfl rfl ?_
              refine tl_iald (n := 64) rfl rfl rfl (by omega) (by omega) ?_
              rw [hs_s]
              refine tl_iload_n rfl rfl ?_
              show jT _ _ 145 _ _ _ _
              refine tl_icmp_ge (tgt := 158) rfl rfl ⟨by omega, by omega⟩ ⟨by omega, by omega⟩ (fun c9 => ?_) (fun c9 => ?_)
              · skip
                refine tl_iload_n rfl rfl ?_
                refine tl_istore_n rfl (Nat.le_of_ble_eq_true rfl) rfl ?_
                refine tl_iinc rfl rfl rfl ?_
                refine tl_goto (tgt := 43) rfl rfl ?_
                show jT _ _ 43 _ _ _ _
                -- leaf 6 at 43
                rw [Int.toNat_natCast]
                first
                  | (have en := nxc_n (c := (lcC R k).1) (L := (lcC R k).2) (k := k) e1; exact nx2 _ _ _ (by omega) (by omega) (by rw [en]))
                  | (have en := nxc_o (c := (lcC R k).1) (L := (lcC R k).2) (k := k) e1
                     have ea : zb (ali R k n) = 1 := zb_t (ali_t e1 ⟨by omega, by omega, by rw [Int.toNat_natCast, Int.toNat_natCast]; omega⟩)
                     rw [ea] at en
                     first | rw [if_pos (by omega)] at en | rw [if_neg (by omega)] at en
                     refine nx2 _ _ _ (by omega) (by omega) ?_
                     rw [hs_hs_same]
                     exact congrArg (hs mem 430 n) (by omega))
                  | (have en := nxc_o (c := (lcC R k).1) (L := (lcC R k).2) (k := k) e1
                     have ea : zb (ali R k n) = 0 := zb_f (ali_f2 (by rw [Int.toNat_natCast, Int.toNat_natCast]; omega))
                     rw [ea] at en
                     first | rw [if_pos (by omega)] at en | rw [if_neg (by omega)] at en
                     refine nx2 _ _ _ (by omega) (by omega) ?_
                     rw [hs_hs_same]
                     exact congrArg (hs mem 430 n) (by omega))
              · show jT _ _ 148 _ _ _ _
                refine tl_aload_n rfl rfl ?_
                refine tl_getr (c := 12) (k9 := 78) (b := 430) rfl rfl rfl rfl ?_
                show jT _ _ 152 _ _ _ _
                refine tl_iload rfl rfl ?_
                refine tl_iald (n := 64) rfl rfl rfl (by omega) (by omega) ?_
                rw [hs_s]
                refine tl_goto (tgt := 159) rfl rfl ?_
                refine tl_istore_n rfl (Nat.le_of_ble_eq_true rfl) rfl ?_
                refine tl_iinc rfl rfl rfl ?_
                refine tl_goto (tgt := 43) rfl rfl ?_
                show jT _ _ 43 _ _ _ _
                -- leaf 7 at 43
                rw [Int.toNat_natCast]
                first
                  | (have en := nxc_n (c := (lcC R k).1) (L := (lcC R k).2) (k := k) e1; exact nx2 _ _ _ (by omega) (by omega) (by rw [en]))
                  | (have en := nxc_o (c := (lcC R k).1) (L := (lcC R k).2) (k := k) e1
                     have ea : zb (ali R k n) = 1 := zb_t (ali_t e1 ⟨by omega, by omega, by rw [Int.toNat_natCast, Int.toNat_natCast]; omega⟩)
                     rw [ea] at en
                     first | rw [if_pos (by omega)] at en | rw [if_neg (by omega)] at en
                     refine nx2 _ _ _ (by omega) (by omega) ?_
                     rw [hs_hs_same]
                     exact congrArg (hs mem 430 n) (by omega))
                  | (have en := nxc_o (c := (lcC R k).1) (L := (lcC R k).2) (k := k) e1
                     have ea : zb (ali R k n) = 0 := zb_f (ali_f2 (by rw [Int.toNat_natCast, Int.toNat_natCast]; omega))
                     rw [ea] at en
                     first | rw [if_pos (by omega)] at en | rw [if_neg (by omega)] at en
                     refine nx2 _ _ _ (by omega) (by omega) ?_
                     rw [hs_hs_same]
                     exact congrArg (hs mem 430 n) (by omega))
            · show jT _ _ 130 _ _ _ _
              refine tl_iconst rfl ?_
              show jT _ _ 131 _ _ _ _
              refine tl_goto (tgt := 135) rfl rfl ?_
              refine tl_iadd rfl ?_
              refine tl_iast (n := 64) rfl rfl rfl (by omega) (by omega) ?_
              refine tl_aload_n rfl rfl ?_
              refine tl_getr (c := 12) (k9 := 78) (b := 430) rfl rfl rfl rfl ?_
              refine tl_iload rfl rfl ?_
              refine tl_iald (n := 64) rfl rfl rfl (by omega) (by omega) ?_
              rw [hs_s]
              show jT _ _ 144 _ _ _ _
              refine tl_iload_n rfl rfl ?_
              refine tl_icmp_ge (tgt := 158) rfl rfl ⟨by omega, by omega⟩ ⟨by omega, by omega⟩ (fun c10 => ?_) (fun c10 => ?_)
              · skip
                refine tl_iload_n rfl rfl ?_
                refine tl_istore_n rfl (Nat.le_of_ble_eq_true rfl) rfl ?_
                refine tl_iinc rfl rfl rfl ?_
                refine tl_goto (tgt := 43) rfl rfl ?_
                show jT _ _ 43 _ _ _ _
                -- leaf 8 at 43
                rw [Int.toNat_natCast]
                first
                  | (have en := nxc_n (c := (lcC R k).1) (L := (lcC R k).2) (k := k) e1; exact nx2 _ _ _ (by omega) (by omega) (by rw [en]))
                  | (have en := nxc_o (c := (lcC R k).1) (L := (lcC R k).2) (k := k) e1
                     have ea : zb (ali R k n) = 1 := zb_t (ali_t e1 ⟨by omega, by omega, by rw [Int.toNat_natCast, Int.toNat_natCast]; omega⟩)
                     rw [ea] at en
                     first | rw [if_pos (by omega)] at en | rw [if_neg (by omega)] at en
                     refine nx2 _ _ _ (by omega) (by omega) ?_
                     rw [hs_hs_same]
                     exact congrArg (hs mem 430 n) (by omega))
                  | (have en := nxc_o (c := (lcC R k).1) (L := (lcC R k).2) (k := k) e1
                     have ea : zb (ali R k n) = 0 := zb_f (ali_f2 (by rw [Int.toNat_natCast, Int.toNat_natCast]; omega))
                     rw [ea] at en
                     first | rw [if_pos (by omega)] at en | rw [if_neg (by omega)] at en
                     refine nx2 _ _ _ (by omega) (by omega) ?_
                     rw [hs_hs_same]
                     exact congrArg (hs mem 430 n) (by omega))
              · show jT _ _ 148 _ _ _ _
                refine tl_aload_n rfl rfl ?_
                show jT _ _ 149 _ _ _ _
                refine tl_getr (c := 12) (k9 := 78) (b := 430) rfl rfl rfl rfl ?_
                refine tl_iload rfl rfl ?_
                refine tl_iald (n := 64) rfl rfl rfl (by omega) (by omega) ?_
                rw [hs_s]
                refine tl_goto (tgt := 159) rfl rfl ?_
                refine tl_istore_n rfl (Nat.le_of_ble_eq_true rfl) rfl ?_
                refine tl_iinc rfl rfl rfl ?_
                refine tl_goto (tgt := 43) rfl rfl ?_
                show jT _ _ 43 _ _ _ _
                -- leaf 9 at 43
                rw [Int.toNat_natCast]
                first
                  | (have en := nxc_n (c := (lcC R k).1) (L := (lcC R k).2) (k := k) e1; exact nx2 _ _ _ (by omega) (by omega) (by rw [en]))
                  | (have en := nxc_o (c := (lcC R k).1) (L := (lcC R k).2) (k := k) e1
                     have ea : zb (ali R k n) = 1 := zb_t (ali_t e1 ⟨by omega, by omega, by rw [Int.toNat_natCast, Int.toNat_natCast]; omega⟩)
                     rw [ea] at en
                     first | rw [if_pos (by omega)] at en | rw [if_neg (by omega)] at en
                     refine nx2 _ _ _ (by omega) (by omega) ?_
                     rw [hs_hs_same]
                     exact congrArg (hs mem 430 n) (by omega))
                  | (have en := nxc_o (c := (lcC R k).1) (L := (lcC R k).2) (k := k) e1
                     have ea : zb (ali R k n) = 0 := zb_f (ali_f2 (by rw [Int.toNat_natCast, Int.toNat_natCast]; omega))
                     rw [ea] at en
                     first | rw [if_pos (by omega)] at en | rw [if_neg (by omega)] at en
                     refine nx2 _ _ _ (by omega) (by omega) ?_
                     rw [hs_hs_same]
                     exact congrArg (hs mem 430 n) (by omega))
          · show jT _ _ 89 _ _ _ _
            show jT _ _ 89 _ _ _ _
            refine tl_aload_n rfl rfl ?_
            refine tl_getr (c := 12) (k9 := 77) (b := 429) rfl rfl rfl rfl ?_
            refine tl_iload rfl rfl ?_
            refine tl_iconst rfl ?_
            refine tl_isub rfl ?_
            refine tl_iald (n := 64) rfl rfl rfl (by omega) (by omega) ?_
            rw [hs_o (show (429 : Nat) ≠ 430 by decide), show ((n : Int) - 1).toNat = n - 1 by omega, i1 (n - 1) (by omega)]
            refine tl_goto (tgt := 104) rfl rfl ?_
            show jT _ _ 104 _ _ _ _
            refine tl_istore rfl (Nat.le_of_ble_eq_true rfl) rfl ?_
            refine tl_aload_n rfl rfl ?_
            refine tl_getr (c := 12) (k9 := 78) (b := 430) rfl rfl rfl rfl ?_
            refine tl_iload rfl rfl ?_
            refine tl_iload rfl rfl ?_
            refine tl_aload_n rfl rfl ?_
            refine tl_iconst rfl ?_
            show jT _ _ 116 _ _ _ _
            refine tl_iload_n rfl rfl ?_
            refine tl_v2i (c9 := 12) (c_at l _ 1 ((k : Int)) (by decide) (by decide) (by omega) (by omega)) rfl rfl rfl rfl rfl (Nat.le_of_ble_eq_true rfl) (fun z2 h2 p2 => ?_)
            obtain ⟨q2, p2⟩ := p2
            have q2 := q2.symm
            subst q2
            rw [show ((6 : Int) + 65 * 1 + ((k : Int))).toNat = 71 + ((k : Int)).toNat by omega, hs_O (show (390 : Nat) ≠ 430 by decide), e390] at p2
            rw [Int.toNat_natCast] at p2
            have y2 := k6 k (by omega)
            have ya2 := y2.1
            have yb2 := y2.2
            refine tl_aload_n rfl rfl ?_
            refine tl_iconst rfl ?_
            refine tl_iload rfl rfl ?_
            refine tl_v2i (c9 := 12) (c_at l _ 0 ((n : Int)) (by decide) (by decide) (by omega) (by omega)) rfl rfl rfl rfl rfl (Nat.le_of_ble_eq_true rfl) (fun z3 h3 p3 => ?_)
            obtain ⟨q3, p3⟩ := p3
            have q3 := q3.symm
            subst q3
            rw [show ((6 : Int) + 65 * 0 + ((n : Int))).toNat = 6 + ((n : Int)).toNat by omega, hs_O (show (390 : Nat) ≠ 430 by decide), e390] at p3
            rw [Int.toNat_natCast] at p3
            have oo := opn_t e1
            have y3 := k5 n (by omega)
            have ya3 := y3.1
            have yb3 := y3.2
            refine tl_icmp_ne (tgt := 134) rfl rfl ⟨by omega, by omega⟩ ⟨by omega, by omega⟩ (fun c11 => ?_) (fun c11 => ?_)
            · skip
              show jT _ _ 134 _ _ _ _
              refine tl_iconst rfl ?_
              refine tl_iadd rfl ?_
              refine tl_iast (n := 64) rfl rfl rfl (by omega) (by omega) ?_
              refine tl_aload_n rfl rfl ?_
              refine tl_getr (c := 12) (k9 := 78) (b := 430) rfl rfl rfl rfl ?_
              refine tl_iload rfl rfl ?_
              refine tl_iald (n := 64) rfl rfl rfl (by omega) (by omega) ?_
              rw [hs_s]
              show jT _ _ 144 _ _ _ _
              refine tl_iload_n rfl rfl ?_
              refine tl_icmp_ge (tgt := 158) rfl rfl ⟨by omega, by omega⟩ ⟨by omega, by omega⟩ (fun c12 => ?_) (fun c12 => ?_)
              · skip
                refine tl_iload_n rfl rfl ?_
                refine tl_istore_n rfl (Nat.le_of_ble_eq_true rfl) rfl ?_
                refine tl_iinc rfl rfl rfl ?_
                refine tl_goto (tgt := 43) rfl rfl ?_
                show jT _ _ 43 _ _ _ _
                -- leaf 10 at 43
                rw [Int.toNat_natCast]
                first
                  | (have en := nxc_n (c := (lcC R k).1) (L := (lcC R k).2) (k := k) e1; exact nx2 _ _ _ (by omega) (by omega) (by rw [en]))
                  | (have en := nxc_o (c := (lcC R k).1) (L := (lcC R k).2) (k := k) e1
                     have ea : zb (ali R k n) = 1 := zb_t (ali_t e1 ⟨by omega, by omega, by rw [Int.toNat_natCast, Int.toNat_natCast]; omega⟩)
                     rw [ea] at en
                     first | rw [if_pos (by omega)] at en | rw [if_neg (by omega)] at en
                     refine nx2 _ _ _ (by omega) (by omega) ?_
                     rw [hs_hs_same]
                     exact congrArg (hs mem 430 n) (by omega))
                  | (have en := nxc_o (c := (lcC R k).1) (L := (lcC R k).2) (k := k) e1
                     have ea : zb (ali R k n) = 0 := zb_f (ali_f2 (by rw [Int.toNat_natCast, Int.toNat_natCast]; omega))
                     rw [ea] at en
                     first | rw [if_pos (by omega)] at en | rw [if_neg (by omega)] at en
                     refine nx2 _ _ _ (by omega) (by omega) ?_
                     rw [hs_hs_same]
                     exact congrArg (hs mem 430 n) (by omega))
              · show jT _ _ 148 _ _ _ _
                refine tl_aload_n rfl rfl ?_
                show jT _ _ 149 _ _ _ _
                refine tl_getr (c := 12) (k9 := 78) (b := 430) rfl rfl rfl rfl ?_
                refine tl_iload rfl rfl ?_
                refine tl_iald (n := 64) rfl rfl rfl (by omega) (by omega) ?_
                rw [hs_s]
                refine tl_goto (tgt := 159) rfl rfl ?_
                refine tl_istore_n rfl (Nat.le_of_ble_eq_true rfl) rfl ?_
                refine tl_iinc rfl rfl rfl ?_
                refine tl_goto (tgt := 43) rfl rfl ?_
                show jT _ _ 43 _ _ _ _
                -- leaf 11 at 43
                rw [Int.toNat_natCast]
                first
                  | (have en := nxc_n (c := (lcC R k).1) (L := (lcC R k).2) (k := k) e1; exact nx2 _ _ _ (by omega) (by omega) (by rw [en]))
                  | (have en := nxc_o (c := (lcC R k).1) (L := (lcC R k).2) (k := k) e1
                     have ea : zb (ali R k n) = 1 := zb_t (ali_t e1 ⟨by omega, by omega, by rw [Int.toNat_natCast, Int.toNat_natCast]; omega⟩)
                     rw [ea] at en
                     first | rw [if_pos (by omega)] at en | rw [if_neg (by omega)] at en
                     refine nx2 _ _ _ (by omega) (by omega) ?_
                     rw [hs_hs_same]
                     exact congrArg (hs mem 430 n) (by omega))
                  | (have en := nxc_o (c := (lcC R k).1) (L := (lcC R k).2) (k := k) e1
                     have ea : zb (ali R k n) = 0 := zb_f (ali_f2 (by rw [Int.toNat_natCast, Int.toNat_natCast]; omega))
                     rw [ea] at en
                     first | rw [if_pos (by omega)] at en | rw [if_neg (by omega)] at en
                     refine nx2 _ _ _ (by omega) (by omega) ?_
                     rw [hs_hs_same]
                     exact congrArg (hs mem 430 n) (by omega))
            · show jT _ _ 130 _ _ _ _
              show jT _ _ 130 _ _ _ _
              refine tl_iconst rfl ?_
              refine tl_goto (tgt := 135) rfl rfl ?_
              refine tl_iadd rfl ?_
              refine tl_iast (n := 64) rfl rfl rfl (by omega) (by omega) ?_
              refine tl_aload_n rfl rfl ?_
              refine tl_getr (c := 12) (k9 := 78) (b := 430) rfl rfl rfl rfl ?_
              refine tl_iload rfl rfl ?_
              show jT _ _ 143 _ _ _ _
              refine tl_iald (n := 64) rfl rfl rfl (by omega) (by omega) ?_
              rw [hs_s]
              refine tl_iload_n rfl rfl ?_
              refine tl_icmp_ge (tgt := 158) rfl rfl ⟨by omega, by omega⟩ ⟨by omega, by omega⟩ (fun c13 => ?_) (fun c13 => ?_)
              · skip
                refine tl_iload_n rfl rfl ?_
                refine tl_istore_n rfl (Nat.le_of_ble_eq_true rfl) rfl ?_
                refine tl_iinc rfl rfl rfl ?_
                refine tl_goto (tgt := 43) rfl rfl ?_
                show jT _ _ 43 _ _ _ _
                -- leaf 12 at 43
                rw [Int.toNat_natCast]
                first
                  | (have en := nxc_n (c := (lcC R k).1) (L := (lcC R k).2) (k := k) e1; exact nx2 _ _ _ (by omega) (by omega) (by rw [en]))
                  | (have en := nxc_o (c := (lcC R k).1) (L := (lcC R k).2) (k := k) e1
                     have ea : zb (ali R k n) = 1 := zb_t (ali_t e1 ⟨by omega, by omega, by rw [Int.toNat_natCast, Int.toNat_natCast]; omega⟩)
                     rw [ea] at en
                     first | rw [if_pos (by omega)] at en | rw [if_neg (by omega)] at en
                     refine nx2 _ _ _ (by omega) (by omega) ?_
                     rw [hs_hs_same]
                     exact congrArg (hs mem 430 n) (by omega))
                  | (have en := nxc_o (c := (lcC R k).1) (L := (lcC R k).2) (k := k) e1
                     have ea : zb (ali R k n) = 0 := zb_f (ali_f2 (by rw [Int.toNat_natCast, Int.toNat_natCast]; omega))
                     rw [ea] at en
                     first | rw [if_pos (by omega)] at en | rw [if_neg (by omega)] at en
                     refine nx2 _ _ _ (by omega) (by omega) ?_
                     rw [hs_hs_same]
                     exact congrArg (hs mem 430 n) (by omega))
              · show jT _ _ 148 _ _ _ _
                show jT _ _ 148 _ _ _ _
                refine tl_aload_n rfl rfl ?_
                refine tl_getr (c := 12) (k9 := 78) (b := 430) rfl rfl rfl rfl ?_
                refine tl_iload rfl rfl ?_
                refine tl_iald (n := 64) rfl rfl rfl (by omega) (by omega) ?_
                rw [hs_s]
                refine tl_goto (tgt := 159) rfl rfl ?_
                refine tl_istore_n rfl (Nat.le_of_ble_eq_true rfl) rfl ?_
                refine tl_iinc rfl rfl rfl ?_
                show jT _ _ 163 _ _ _ _
                refine tl_goto (tgt := 43) rfl rfl ?_
                show jT _ _ 43 _ _ _ _
                -- leaf 13 at 43
                rw [Int.toNat_natCast]
                first
                  | (have en := nxc_n (c := (lcC R k).1) (L := (lcC R k).2) (k := k) e1; exact nx2 _ _ _ (by omega) (by omega) (by rw [en]))
                  | (have en := nxc_o (c := (lcC R k).1) (L := (lcC R k).2) (k := k) e1
                     have ea : zb (ali R k n) = 1 := zb_t (ali_t e1 ⟨by omega, by omega, by rw [Int.toNat_natCast, Int.toNat_natCast]; omega⟩)
                     rw [ea] at en
                     first | rw [if_pos (by omega)] at en | rw [if_neg (by omega)] at en
                     refine nx2 _ _ _ (by omega) (by omega) ?_
                     rw [hs_hs_same]
                     exact congrArg (hs mem 430 n) (by omega))
                  | (have en := nxc_o (c := (lcC R k).1) (L := (lcC R k).2) (k := k) e1
                     have ea : zb (ali R k n) = 0 := zb_f (ali_f2 (by rw [Int.toNat_natCast, Int.toNat_natCast]; omega))
                     rw [ea] at en
                     first | rw [if_pos (by omega)] at en | rw [if_neg (by omega)] at en
                     refine nx2 _ _ _ (by omega) (by omega) ?_
                     rw [hs_hs_same]
                     exact congrArg (hs mem 430 n) (by omega))
set_option maxRecDepth 20000 in
set_option maxHeartbeats 1000000 in
theorem r_least_D (l : Launch) (h : jH) (R : Nat → Int) (hR : h 390 = R) (ok : Rok R) (k : Nat) (a1 a2 : Int) (f : Nat → Int) (P : Option Value → jH → Prop) (hx : ∀ mem y5, ((∀ q : Nat, q < 64 → mem 429 q = f q) ∧ ∀ x, x ≠ 429 → x ≠ 430 → mem x = h x) → jT l 343 196 [some (.ref 388), some (.int (jI (a1))), some (.int (jI ((k : Int)))), some (.int (jI (a2))), some (.int (jI (64))), y5] [] mem P) : ∀ (m : Nat) (n : Nat) (mem : jH) (y5 : Option Value), 64 - n < m → (n ≤ 64 ∧ (∀ q : Nat, q < 64 → mem 430 q = f q) ∧ (∀ q : Nat, q < n → mem 429 q = f q) ∧ ∀ x, x ≠ 429 → x ≠ 430 → mem x = h x) → jT l 343 169 [some (.ref 388), some (.int (jI (a1))), some (.int (jI ((k : Int)))), some (.int (jI (a2))), some (.int (jI ((n : Int)))), y5] [] mem P := by
  intro m
  induction m with
  | zero => intro n mem y5 hk; omega
  | succ m ih =>
    intro n mem y5 hk hi
    obtain ⟨i0, i1, i2, fr⟩ := hi
    refine tl_iload rfl rfl ?_
    refine tl_bipush rfl rfl ?_
    refine tl_icmp_ge (tgt := 196) rfl rfl ⟨by omega, by omega⟩ ⟨by omega, by omega⟩ (fun c1 => ?_) (fun c1 => ?_)
    · skip
      show jT _ _ 196 _ _ _ _
      -- leaf 0 at 196
      have e : n = 64 := by omega
      subst e
      exact hx mem y5 ⟨i2, fr⟩
    · show jT _ _ 176 _ _ _ _
      refine tl_aload_n rfl rfl ?_
      refine tl_getr (c := 12) (k9 := 77) (b := 429) rfl rfl rfl rfl ?_
      refine tl_iload rfl rfl ?_
      show jT _ _ 182 _ _ _ _
      refine tl_aload_n rfl rfl ?_
      refine tl_getr (c := 12) (k9 := 78) (b := 430) rfl rfl rfl rfl ?_
      refine tl_iload rfl rfl ?_
      refine tl_iald (n := 64) rfl rfl rfl (by omega) (by omega) ?_
      rw [Int.toNat_natCast, i1 n (by omega)]
      refine tl_iast (n := 64) rfl rfl rfl (by omega) (by omega) ?_
      refine tl_iinc rfl rfl rfl ?_
      refine tl_goto (tgt := 169) rfl rfl ?_
      show jT _ _ 169 _ _ _ _
      -- leaf 1 at 169
      refine ih (n + 1) _ _ (by omega) ⟨by omega, fun q hq => by rw [hs_o (by decide)]; exact i1 q hq, fun q hq => ?_, fun x hx hx2 => by rw [hs_O hx]; exact fr x hx hx2⟩
      rw [Int.toNat_natCast]
      by_cases c : q = n
      · subst c; rw [hs_s]
      · rw [hs_k c]; exact i2 q (by omega)
set_option maxRecDepth 20000 in
set_option maxHeartbeats 1000000 in
theorem r_least_B (l : Launch) (h : jH) (R : Nat → Int) (hR : h 390 = R) (ok : Rok R) (P : Option Value → jH → Prop) (hP : ∀ mem, (∀ x, x ≠ 429 → x ≠ 430 → mem x = h x) → P (some (.int (jI (Alc R)))) mem) : ∀ (m : Nat) (k : Nat) (mem : jH) (y3 : Option Value) (y4 : Option Value) (y5 : Option Value), (R 70).toNat - k < m → ((k : Int) ≤ R 70 ∧ (∀ q : Nat, q < 64 → mem 429 q = (lcC R k).1 q) ∧ ∀ x, x ≠ 429 → x ≠ 430 → mem x = h x) → jT l 343 27 [some (.ref 388), some (.int (jI ((lcC R k).2))), some (.int (jI ((k : Int)))), y3, y4, y5] [] mem P := by
  have ok9 := ok
  obtain ⟨k1, k2, k3, k4, k5, k6, k7⟩ := ok9
  intro m
  induction m with
  | zero => intro k mem y3 y4 y5 hk; omega
  | succ m ih =>
    intro k mem y3 y4 y5 hk hi
    obtain ⟨i0, i1, fr⟩ := hi
    have e390 : mem 390 = R := by rw [fr 390 (by decide) (by decide)]; exact hR
    refine tl_iload_n rfl rfl ?_
    refine tl_aload_n rfl rfl ?_
    refine tl_iconst rfl ?_
    refine tl_v1i (c9 := 12) (c_sizeOf l _ 1 (by decide) (by decide)) rfl rfl rfl rfl rfl (Nat.le_of_ble_eq_true rfl) (fun z1 h1 p1 => ?_)
    obtain ⟨q1, rfl⟩ := p1
    have q1 := q1.symm
    subst q1
    rw [show (5 + 65 * 1 : Int).toNat = 70 from rfl]
    rw [e390]
    refine tl_icmp_ge (tgt := 204) rfl rfl ⟨by omega, by omega⟩ ⟨by omega, by omega⟩ (fun c1 => ?_) (fun c1 => ?_)
    · skip
      refine tl_iload_n rfl rfl ?_
      show jT _ _ 205 _ _ _ _
      refine tl_iret rfl ?_
      -- leaf 0 at 205
      have e : k = (R 70).toNat := by omega
      rw [e]
      exact hP mem fr
    · show jT _ _ 36 _ _ _ _
      refine tl_iload_n rfl rfl ?_
      refine tl_iconst rfl ?_
      refine tl_iadd rfl ?_
      refine tl_istore_n rfl (Nat.le_of_ble_eq_true rfl) rfl ?_
      refine tl_iconst rfl ?_
      refine tl_istore rfl (Nat.le_of_ble_eq_true rfl) rfl ?_
      show jT _ _ 43 _ _ _ _
      -- leaf 1 at 43
      refine r_least_C l h R hR ok k (by omega) P (fun mem2 y52 hj => ?_) _ 0 mem y5 (Nat.lt_succ_self _) ⟨by omega, i1, fun q q1 => by omega, fr⟩
      refine tl_iconst rfl ?_
      refine tl_istore rfl (Nat.le_of_ble_eq_true rfl) rfl ?_
      show jT _ _ 169 _ _ _ _
      -- leaf 0 at 169
      refine r_least_D l h R hR ok k _ _ (lcC R (k + 1)).1 P (fun mem3 y53 hj3 => ?_) _ 0 mem2 _ (Nat.lt_succ_self _) ⟨by omega, hj.1, fun q hq => by omega, hj.2⟩
      refine tl_iload_n rfl rfl ?_
      refine tl_istore_n rfl (Nat.le_of_ble_eq_true rfl) rfl ?_
      refine tl_iinc rfl rfl rfl ?_
      refine tl_goto (tgt := 27) rfl rfl ?_
      show jT _ _ 27 _ _ _ _
      -- leaf 0 at 27
      exact ih (k + 1) mem3 _ _ _ (by omega) ⟨by omega, hj3.1, hj3.2⟩
set_option maxRecDepth 20000 in
set_option maxHeartbeats 1000000 in
theorem r_leastCost (l : Launch) (h : jH) (R : Nat → Int) (hR : h 390 = R) (ok : Rok R) : cI l 343 [.ref 388] h (fun z h' => z = Alc R ∧ ∀ x, x ≠ 429 → x ≠ 430 → h' x = h x) := by
  have ok9 := ok
  obtain ⟨k1, k2, k3, k4, k5, k6, k7⟩ := ok9
  refine cI.of rfl rfl ?_
  refine tl_iconst rfl ?_
  refine tl_istore_n rfl (Nat.le_of_ble_eq_true rfl) rfl ?_
  refine tl_iconst rfl ?_
  refine tl_istore_n rfl (Nat.le_of_ble_eq_true rfl) rfl ?_
  show jT _ _ 4 _ _ _ _
  -- leaf 0 at 4
  refine r_least_A l h R hR ok _ (fun mem hi => ?_) _ 0 h (Nat.lt_succ_self _) ⟨Nat.zero_le _, fun p hp => by omega, fun x _ _ => rfl⟩
  refine tl_iconst rfl ?_
  refine tl_istore_n rfl (Nat.le_of_ble_eq_true rfl) rfl ?_
  show jT _ _ 27 _ _ _ _
  -- leaf 0 at 27
  exact r_least_B l h R hR ok _ (fun mem2 fr => ⟨_, rfl, rfl, fr⟩) _ 0 mem _ _ _ (Nat.lt_succ_self _) ⟨by omega, hi.1, hi.2⟩
