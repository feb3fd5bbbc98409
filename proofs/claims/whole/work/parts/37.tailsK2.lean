/-! the tails: insert, sort, and what is counted of them -/
theorem TS.congr {R : Nat → Int} {P n : Nat} {a b : Nat → Int} (h : TS R P a n) (e : ∀ i, i < n → b i = a i) : TS R P b n := by
  refine ⟨fun i hi => by rw [e i hi]; exact h.1 i hi, fun i j hij hj => by rw [e i (by omega), e j hj]; exact h.2.1 i j hij hj, fun p hp hop => ?_⟩
  obtain ⟨i, i1, i2⟩ := h.2.2 p hp hop
  exact ⟨i, i1, by rw [e i i1]; exact i2⟩
def cmA (R a : Nat → Int) (k : Nat) : Nat := if k = 0 then 0 else com R (a (k - 1)) (a k)
def mxA (R a : Nat → Int) : Nat → Int
  | 0 => 0
  | k + 1 => max (mxA R a k) (cmA R a k : Int)
def lwA (R a : Nat → Int) (m : Int) : Nat → Int
  | 0 => -1
  | k + 1 => if k ≠ 0 ∧ (cmA R a k : Int) = m then (if lwA R a m k = -1 then min (a (k - 1)) (a k) else min (lwA R a m k) (min (a (k - 1)) (a k))) else lwA R a m k
def knF (R a : Nat → Int) (n : Int) : Nat → Int := fun k => if n ≤ (tsz R (a k) : Int) ∧ (cmA R a k : Int) < n then 1 else 0
set_option maxRecDepth 20000 in
set_option maxHeartbeats 1000000 in
theorem k_insert_lp (l : Launch) (h : jH) (R : Nat → Int) (hR : RS h 1 R) (P n : Nat) (hP64 : P < 64) (hT : TS R P (h 314) n) (h1 : h 313 1 = (n : Int)) (Q : Option Value → jH → Prop) (hx : ∀ (k r : Nat) (y : Option Value), k ≤ n → (∀ i, i < k → ahd R (h 314 i) P = true) → (∀ i, k ≤ i → i < n → ahd R P (h 314 i) = true) → jT l 122 82 [some (.ref 313), some (.ref 1), some (.int (jI (P : Int))), some (.int (jI (k : Int))), some (.int (jI (k : Int))), some (.int (jI (r : Int))), y] [] h Q) : ∀ (m lo hi r : Nat) (y : Option Value), (y = none ∨ ∃ z, y = some (.int (jI z))) → hi - lo < m → lo ≤ hi → hi ≤ n → hi - lo + r ≤ 64 → (∀ i, i < lo → ahd R (h 314 i) P = true) → (∀ i, hi ≤ i → i < n → ahd R P (h 314 i) = true) → jT l 122 28 [some (.ref 313), some (.ref 1), some (.int (jI (P : Int))), some (.int (jI (lo : Int))), some (.int (jI (hi : Int))), some (.int (jI (r : Int))), y] [] h Q := by
  have ok := hR.ok
  have hn := hT.cnt ok
  have pr := hT.pre ok P (by omega) (by omega)
  have k2 := ok.2.1
  intro m
  induction m with
  | zero => intro lo hi r y hy hk; omega
  | succ m ih =>
    intro lo hi r y hy hk hlh hhn hr g1 g2
    refine tl_iload rfl rfl ?_
    refine tl_bipush rfl rfl ?_
    refine tl_icmp_ge (tgt := 82) rfl rfl ⟨by omega, by omega⟩ ⟨by omega, by omega⟩ (fun c1 => ?_) (fun c1 => ?_)
    · skip
      show jT _ _ 82 _ _ _ _
      -- leaf 0 at 82
      have e : hi = lo := by omega
      subst e
      exact hx hi r _ (by omega) g1 g2
    · show jT _ _ 35 _ _ _ _
      refine tl_iload_n rfl rfl ?_
      refine tl_iload rfl rfl ?_
      refine tl_icmp_ge (tgt := 82) rfl rfl ⟨by omega, by omega⟩ ⟨by omega, by omega⟩ (fun c2 => ?_) (fun c2 => ?_)
      · skip
        show jT _ _ 82 _ _ _ _
        -- leaf 1 at 82
        have e : hi = lo := by omega
        subst e
        exact hx hi r _ (by omega) g1 g2
      · show jT _ _ 41 _ _ _ _
        show jT _ _ 41 _ _ _ _
        refine tl_iload_n rfl rfl ?_
        refine tl_iload rfl rfl ?_
        refine tl_iadd rfl ?_
        refine tl_iconst rfl ?_
        refine tl_idiv rfl (by omega) (by omega) (by omega) (by omega) ?_
        rw [show ((lo : Int) + (hi : Int)) / 2 = (((lo + hi) / 2 : Nat) : Int) by omega]
        refine tl_istore rfl (Nat.le_of_ble_eq_true rfl) rfl ?_
        refine tl_aload_n rfl rfl ?_
        show jT _ _ 50 _ _ _ _
        refine tl_aload_n rfl rfl ?_
        refine tl_getr (c := 10) (k9 := 0) (b := 314) rfl rfl rfl rfl ?_
        refine tl_iload rfl rfl ?_
        refine tl_iald (n := 64) rfl rfl rfl (by omega) (by omega) ?_
        rw [Int.toNat_natCast]
        have pm := hT.pos (i := (lo + hi) / 2) (by omega)
        refine tl_iload_n rfl rfl ?_
        refine tl_s3i (k_isAhead l h R hR (h 314 ((lo + hi) / 2)) (P : Int) pm.1 (by omega) (by omega) (by omega)) rfl rfl rfl (Nat.le_of_ble_eq_true rfl) (fun z1 h1 p1 => ?_)
        obtain ⟨q1, rfl⟩ := p1
        have q1 := q1.symm
        subst q1
        have b1 := zb_b (ahd R (h 314 ((lo + hi) / 2)) P)
        refine tl_if_eq (tgt := 72) rfl rfl ⟨by omega, by omega⟩ (fun c3 => ?_) (fun c3 => ?_)
        · skip
          have e1 := zb0 c3
          show jT _ _ 72 _ _ _ _
          refine tl_iload rfl rfl ?_
          refine tl_istore rfl (Nat.le_of_ble_eq_true rfl) rfl ?_
          refine tl_iinc rfl rfl rfl ?_
          refine tl_goto (tgt := 28) rfl rfl ?_
          show jT _ _ 28 _ _ _ _
          -- leaf 2 at 28
          first
            | (have := ih ((lo + hi) / 2 + 1) hi (r + 1) (some (.int (jI (((lo + hi) / 2 : Nat) : Int)))) (Or.inr ⟨_, rfl⟩) (by omega) (by omega) (by omega) (by omega) (fun i hi2 => pr.1 i ((lo + hi) / 2) (by omega) (by omega) e1) g2
               exact this)
            | (have := ih lo ((lo + hi) / 2) (r + 1) (some (.int (jI (((lo + hi) / 2 : Nat) : Int)))) (Or.inr ⟨_, rfl⟩) (by omega) (by omega) (by omega) (by omega) g1 (fun i h1 h2 => pr.2.1 ((lo + hi) / 2) i h1 h2 e1)
               exact this)
        · show jT _ _ 64 _ _ _ _
          have e1 := zb1' c3
          refine tl_iload rfl rfl ?_
          refine tl_iconst rfl ?_
          refine tl_iadd rfl ?_
          show jT _ _ 68 _ _ _ _
          refine tl_istore_n rfl (Nat.le_of_ble_eq_true rfl) rfl ?_
          refine tl_goto (tgt := 76) rfl rfl ?_
          refine tl_iinc rfl rfl rfl ?_
          refine tl_goto (tgt := 28) rfl rfl ?_
          show jT _ _ 28 _ _ _ _
          -- leaf 3 at 28
          first
            | (have := ih ((lo + hi) / 2 + 1) hi (r + 1) (some (.int (jI (((lo + hi) / 2 : Nat) : Int)))) (Or.inr ⟨_, rfl⟩) (by omega) (by omega) (by omega) (by omega) (fun i hi2 => pr.1 i ((lo + hi) / 2) (by omega) (by omega) e1) g2
               exact this)
            | (have := ih lo ((lo + hi) / 2) (r + 1) (some (.int (jI (((lo + hi) / 2 : Nat) : Int)))) (Or.inr ⟨_, rfl⟩) (by omega) (by omega) (by omega) (by omega) g1 (fun i h1 h2 => pr.2.1 ((lo + hi) / 2) i h1 h2 e1)
               exact this)
set_option maxRecDepth 20000 in
set_option maxHeartbeats 1000000 in
theorem k_insert (l : Launch) (h : jH) (R : Nat → Int) (hR : RS h 1 R) (P n : Nat) (hP64 : P < 64) (hT : TS R P (h 314) n) (h1 : h 313 1 = (n : Int)) (ho : opn R P = true) : cV l 122 [.ref 313, .ref 1, .int (jI (P : Int))] h (fun h' => h' 313 1 = ((n + 1 : Nat) : Int) ∧ TS R (P + 1) (h' 314) (n + 1) ∧ ∀ x, x ≠ 313 → x ≠ 314 → h' x = h x) := by
  have ok := hR.ok
  have hn := hT.cnt ok
  refine cV.of rfl rfl ?_
  refine tl_aload_n rfl rfl ?_
  refine tl_geti (c := 10) (k9 := 1) rfl rfl rfl ?_
  rw [h1]
  refine tl_if_lt (tgt := 16) rfl rfl ⟨by omega, by omega⟩ (fun c1 => ?_) (fun c1 => ?_)
  · skip
    refine tl_ret rfl ?_
    -- leaf 0 at 16
    exfalso; omega
  · show jT _ _ 7 _ _ _ _
    refine tl_aload_n rfl rfl ?_
    refine tl_geti (c := 10) (k9 := 1) rfl rfl rfl ?_
    rw [h1]
    show jT _ _ 11 _ _ _ _
    refine tl_bipush rfl rfl ?_
    refine tl_icmp_lt (tgt := 17) rfl rfl ⟨by omega, by omega⟩ ⟨by omega, by omega⟩ (fun c2 => ?_) (fun c2 => ?_)
    · skip
      refine tl_iconst rfl ?_
      refine tl_istore_n rfl (Nat.le_of_ble_eq_true rfl) rfl ?_
      refine tl_aload_n rfl rfl ?_
      refine tl_geti (c := 10) (k9 := 1) rfl rfl rfl ?_
      rw [h1]
      refine tl_istore rfl (Nat.le_of_ble_eq_true rfl) rfl ?_
      show jT _ _ 25 _ _ _ _
      refine tl_iconst rfl ?_
      refine tl_istore rfl (Nat.le_of_ble_eq_true rfl) rfl ?_
      show jT _ _ 28 _ _ _ _
      -- leaf 1 at 28
      refine k_insert_lp l h R hR P n hP64 hT h1 _ (fun k r y hk g1 g2 => ?_) _ 0 n 0 none (Or.inl rfl) (Nat.lt_succ_self _) (by omega) (by omega) (by omega) (fun i hi => by omega) (fun i hi1 hi2 => by omega)
      refine tl_aload_n rfl rfl ?_
      refine tl_getr (c := 10) (k9 := 0) (b := 314) rfl rfl rfl rfl ?_
      refine tl_iload_n rfl rfl ?_
      refine tl_aload_n rfl rfl ?_
      refine tl_getr (c := 10) (k9 := 0) (b := 314) rfl rfl rfl rfl ?_
      refine tl_iload_n rfl rfl ?_
      show jT _ _ 92 _ _ _ _
      refine tl_iconst rfl ?_
      refine tl_iadd rfl ?_
      refine tl_aload_n rfl rfl ?_
      refine tl_geti (c := 10) (k9 := 1) rfl rfl rfl ?_
      rw [h1]
      refine tl_iload_n rfl rfl ?_
      refine tl_isub rfl ?_
      refine tl_copy (m0 := 64) (m1 := 64) rfl rfl rfl rfl rfl (by omega) (by omega) (by omega) (by omega) (by omega) (Nat.le_of_ble_eq_true rfl) rfl ?_
      show jT _ _ 103 _ _ _ _
      refine tl_aload_n rfl rfl ?_
      refine tl_getr (c := 10) (k9 := 0) (b := 314) rfl rfl rfl rfl ?_
      refine tl_iload_n rfl rfl ?_
      refine tl_iload_n rfl rfl ?_
      refine tl_iast (n := 64) rfl rfl rfl (by omega) (by omega) ?_
      refine tl_aload_n rfl rfl ?_
      refine tl_dup rfl rfl ?_
      show jT _ _ 112 _ _ _ _
      refine tl_geti (c := 10) (k9 := 1) rfl rfl rfl ?_
      rw [hs_o (by decide), hw_o (by decide), h1]
      refine tl_iconst rfl ?_
      refine tl_iadd rfl ?_
      refine tl_puti (c := 10) (k9 := 1) rfl rfl rfl rfl ?_
      refine tl_ret rfl ?_
      -- leaf 0 at 120
      refine ⟨rfl, hs_s.trans (by omega), ?_, fun x x1 x2 => ?_⟩
      · refine (hT.ins ok ho hk g1 g2).congr (fun i hi => ?_)
        rw [hs_o (by decide), insA, Int.toNat_natCast]
        by_cases c : i = k
        · subst c; rw [hs_s, if_neg (by omega), if_pos rfl]
        · rw [hs_k c, hw_s, va_cpy]
          by_cases d : i < k
          · rw [if_neg (by omega), if_pos d]
          · rw [if_pos (by omega), if_neg d, if_neg (by omega)]; exact congrArg (h 314) (by omega)
      · rw [hs_O x1, hs_O x2, hw_o x2]
    · show jT _ _ 16 _ _ _ _
      refine tl_ret rfl ?_
      -- leaf 2 at 16
      exfalso; omega
set_option maxRecDepth 20000 in
set_option maxHeartbeats 1000000 in
theorem k_sort_lp (l : Launch) (h : jH) (R : Nat → Int) (hR : RS h 1 R) (P : Option Value → jH → Prop) (hP : ∀ mem, ((∃ n : Nat, mem 313 1 = (n : Int) ∧ TS R 64 (mem 314) n) ∧ ∀ x, x ≠ 313 → x ≠ 314 → mem x = h x) → P none mem) : ∀ (m k : Nat) (mem : jH), 64 - k < m → k ≤ 64 → ((∃ n : Nat, mem 313 1 = (n : Int) ∧ TS R k (mem 314) n) ∧ ∀ x, x ≠ 313 → x ≠ 314 → mem x = h x) → jT l 121 7 [some (.ref 313), some (.ref 1), some (.int (jI (k : Int)))] [] mem P := by
  intro m
  induction m with
  | zero => intro k mem hk; omega
  | succ m ih =>
    intro k mem hk hkK hi
    have hRm : RS mem 1 R := hR.of (fun x x1 x2 => hi.2 x (by omega) (by omega))
    have ok := hRm.ok
    obtain ⟨⟨n, m1, hT⟩, fr⟩ := hi
    refine tl_iload_n rfl rfl ?_
    refine tl_bipush rfl rfl ?_
    refine tl_icmp_ge (tgt := 33) rfl rfl ⟨by omega, by omega⟩ ⟨by omega, by omega⟩ (fun c1 => ?_) (fun c1 => ?_)
    · skip
      refine tl_ret rfl ?_
      -- leaf 0 at 33
      have e : k = 64 := by omega
      rw [e] at hT
      exact hP mem ⟨⟨n, m1, hT⟩, fr⟩
    · show jT _ _ 13 _ _ _ _
      refine tl_aload_n rfl rfl ?_
      refine tl_iload_n rfl rfl ?_
      show jT _ _ 15 _ _ _ _
      refine tl_v1i (c9 := 9) (k_isOpen l mem R hRm ((k : Int)) ⟨by omega, by omega⟩) rfl rfl rfl rfl rfl (Nat.le_of_ble_eq_true rfl) (fun z1 h1 p1 => ?_)
      obtain ⟨q1, rfl⟩ := p1
      have q1 := q1.symm
      subst q1
      have b1 := zb_b (opn R ((k : Int)))
      refine tl_if_eq (tgt := 27) rfl rfl ⟨by omega, by omega⟩ (fun c2 => ?_) (fun c2 => ?_)
      · skip
        have e1 := zb0 c2
        refine tl_iinc rfl rfl rfl ?_
        refine tl_goto (tgt := 7) rfl rfl ?_
        show jT _ _ 7 _ _ _ _
        -- leaf 1 at 7
        first
          | exact ih (k + 1) mem (by omega) (by omega) ⟨⟨n, m1, hT.skip e1⟩, fr⟩
          | exact ih (k + 1) h2 (by omega) (by omega) ⟨⟨n + 1, u1, u2⟩, fun x x1 x2 => (u3 x x1 x2).trans (fr x x1 x2)⟩
      · show jT _ _ 21 _ _ _ _
        have e1 := zb1' c2
        refine tl_aload_n rfl rfl ?_
        refine tl_aload_n rfl rfl ?_
        refine tl_iload_n rfl rfl ?_
        show jT _ _ 24 _ _ _ _
        refine tl_v2v (c9 := 10) (k_insert l mem R hRm k n (by omega) hT m1 e1) rfl rfl rfl rfl rfl (Nat.le_of_ble_eq_true rfl) (fun h2 p2 => ?_)
        obtain ⟨u1, u2, u3⟩ := p2
        refine tl_iinc rfl rfl rfl ?_
        refine tl_goto (tgt := 7) rfl rfl ?_
        show jT _ _ 7 _ _ _ _
        -- leaf 2 at 7
        first
          | exact ih (k + 1) mem (by omega) (by omega) ⟨⟨n, m1, hT.skip e1⟩, fr⟩
          | exact ih (k + 1) h2 (by omega) (by omega) ⟨⟨n + 1, u1, u2⟩, fun x x1 x2 => (u3 x x1 x2).trans (fr x x1 x2)⟩
set_option maxRecDepth 20000 in
set_option maxHeartbeats 1000000 in
theorem k_sort (l : Launch) (h : jH) (R : Nat → Int) (hR : RS h 1 R) : cV l 121 [.ref 313, .ref 1] h (fun h' => (∃ n : Nat, h' 313 1 = (n : Int) ∧ TS R 64 (h' 314) n) ∧ ∀ x, x ≠ 313 → x ≠ 314 → h' x = h x) := by
  refine cV.of rfl rfl ?_
  refine tl_aload_n rfl rfl ?_
  refine tl_iconst rfl ?_
  refine tl_puti (c := 10) (k9 := 1) rfl rfl rfl rfl ?_
  refine tl_iconst rfl ?_
  refine tl_istore_n rfl (Nat.le_of_ble_eq_true rfl) rfl ?_
  show jT _ _ 7 _ _ _ _
  -- leaf 0 at 7
  refine k_sort_lp l h R hR _ (fun mem hi => ⟨rfl, hi⟩) _ 0 _ (Nat.lt_succ_self _) (Nat.zero_le _) ⟨⟨0, hs_s, TS.none⟩, fun x x1 x2 => hs_O x1⟩
theorem TS.p64 {R : Nat → Int} (hR : Rok R) {P n : Nat} {a : Nat → Int} (h : TS R P a n) {i : Nat} (hi : i < n) : 0 ≤ a i ∧ a i ≤ 63 := by have := h.pos hi; have := hR.2.1; omega
theorem cmA_b {R a : Nat → Int} (hR : Rok R) {P n : Nat} (h : TS R P a n) {k : Nat} (hk : k < n) : cmA R a k ≤ 64 := by
  rw [cmA]
  split
  · omega
  · exact (com_s hR (h.pos (by omega)).1).1
theorem mxA_b {R a : Nat → Int} (hR : Rok R) {P n : Nat} (h : TS R P a n) : ∀ k, k ≤ n → 0 ≤ mxA R a k ∧ mxA R a k ≤ 64 := by
  intro k
  induction k with
  | zero => intro _; exact ⟨by show _ ≤ _; first | (show (0 : Int) ≤ 0; omega) | (show (-1 : Int) ≤ -1; omega), by first | (show (0 : Int) ≤ 64; omega) | (show (-1 : Int) ≤ 63; omega)⟩
  | succ k ih =>
    intro hk
    have := ih (by omega)
    have := cmA_b hR h (k := k) (by omega)
    rw [mxA]; omega
theorem lwA_b {R a : Nat → Int} (hR : Rok R) {P n : Nat} (h : TS R P a n) (m : Int) : ∀ k, k ≤ n → -1 ≤ lwA R a m k ∧ lwA R a m k ≤ 63 := by
  intro k
  induction k with
  | zero => intro _; exact ⟨by show _ ≤ _; first | (show (0 : Int) ≤ 0; omega) | (show (-1 : Int) ≤ -1; omega), by first | (show (0 : Int) ≤ 64; omega) | (show (-1 : Int) ≤ 63; omega)⟩
  | succ k ih =>
    intro hk
    have := ih (by omega)
    rw [lwA]
    split
    · have := h.p64 hR (i := k) (by omega)
      have := h.p64 hR (i := k - 1) (by omega)
      split <;> omega
    · omega
theorem knF_b {R a : Nat → Int} {n : Int} (i : Nat) : knF R a n i = 0 ∨ knF R a n i = 1 := by rw [knF]; split <;> omega
set_option maxRecDepth 20000 in
set_option maxHeartbeats 1000000 in
theorem k_alikeA (l : Launch) (h : jH) (R : Nat → Int) (hR : RS h 1 R) (n : Nat) (h1 : h 313 1 = (n : Int)) (hT : TS R 64 (h 314) n) (k : Nat) (hk : k < n) : cI l 126 [.ref 313, .ref 1, .int (jI (k : Int))] h (fun z h' => h' = h ∧ z = (cmA R (h 314) k : Int)) := by
  have ok := hR.ok
  have hn := hT.cnt ok
  have k2 := ok.2.1
  refine cI.of rfl rfl ?_
  refine tl_iload_n rfl rfl ?_
  refine tl_iconst rfl ?_
  refine tl_icmp_lt (tgt := 19) rfl rfl ⟨by omega, by omega⟩ ⟨by omega, by omega⟩ (fun c1 => ?_) (fun c1 => ?_)
  · skip
    refine tl_iconst rfl ?_
    refine tl_iret rfl ?_
    -- leaf 0 at 20
    first
      | (exfalso; omega)
      | (refine ⟨_, rfl, rfl, ?_⟩; rw [cmA, if_pos (by omega)]; rfl)
      | (refine ⟨_, rfl, rfl, ?_⟩; rw [cmA, if_neg (by omega)])
  · show jT _ _ 5 _ _ _ _
    refine tl_iload_n rfl rfl ?_
    show jT _ _ 6 _ _ _ _
    refine tl_aload_n rfl rfl ?_
    refine tl_geti (c := 10) (k9 := 1) rfl rfl rfl ?_
    rw [h1]
    refine tl_icmp_ge (tgt := 19) rfl rfl ⟨by omega, by omega⟩ ⟨by omega, by omega⟩ (fun c2 => ?_) (fun c2 => ?_)
    · skip
      refine tl_iconst rfl ?_
      refine tl_iret rfl ?_
      -- leaf 1 at 20
      first
        | (exfalso; omega)
        | (refine ⟨_, rfl, rfl, ?_⟩; rw [cmA, if_pos (by omega)]; rfl)
        | (refine ⟨_, rfl, rfl, ?_⟩; rw [cmA, if_neg (by omega)])
    · show jT _ _ 13 _ _ _ _
      refine tl_iload_n rfl rfl ?_
      refine tl_bipush rfl rfl ?_
      show jT _ _ 16 _ _ _ _
      refine tl_icmp_lt (tgt := 21) rfl rfl ⟨by omega, by omega⟩ ⟨by omega, by omega⟩ (fun c3 => ?_) (fun c3 => ?_)
      · skip
        refine tl_aload_n rfl rfl ?_
        refine tl_aload_n rfl rfl ?_
        refine tl_getr (c := 10) (k9 := 0) (b := 314) rfl rfl rfl rfl ?_
        refine tl_iload_n rfl rfl ?_
        refine tl_iconst rfl ?_
        refine tl_isub rfl ?_
        show jT _ _ 29 _ _ _ _
        refine tl_iald (n := 64) rfl rfl rfl (by omega) (by omega) ?_
        rw [show ((k : Int) - 1).toNat = k - 1 by omega]
        have x1 := hT.pos (i := k - 1) (by omega)
        refine tl_aload_n rfl rfl ?_
        refine tl_getr (c := 10) (k9 := 0) (b := 314) rfl rfl rfl rfl ?_
        refine tl_iload_n rfl rfl ?_
        refine tl_iald (n := 64) rfl rfl rfl (by omega) (by omega) ?_
        rw [Int.toNat_natCast]
        have x2 := hT.pos (i := k) (by omega)
        refine tl_s3i (k_alikeF l h R hR (h 314 (k - 1)) (h 314 k) (by omega) (by omega) (by omega) (by omega)) rfl rfl rfl (Nat.le_of_ble_eq_true rfl) (fun z1 h9 p1 => ?_)
        obtain ⟨q1, rfl⟩ := p1
        have q1 := q1.symm
        subst q1
        refine tl_iret rfl ?_
        -- leaf 2 at 39
        first
          | (exfalso; omega)
          | (refine ⟨_, rfl, rfl, ?_⟩; rw [cmA, if_pos (by omega)]; rfl)
          | (refine ⟨_, rfl, rfl, ?_⟩; rw [cmA, if_neg (by omega)])
      · show jT _ _ 19 _ _ _ _
        show jT _ _ 19 _ _ _ _
        refine tl_iconst rfl ?_
        refine tl_iret rfl ?_
        -- leaf 3 at 20
        first
          | (exfalso; omega)
          | (refine ⟨_, rfl, rfl, ?_⟩; rw [cmA, if_pos (by omega)]; rfl)
          | (refine ⟨_, rfl, rfl, ?_⟩; rw [cmA, if_neg (by omega)])
set_option maxRecDepth 20000 in
set_option maxHeartbeats 1000000 in
theorem k_kinds_lp (l : Launch) (h : jH) (R : Nat → Int) (hR : RS h 1 R) (n : Nat) (h1 : h 313 1 = (n : Int)) (hT : TS R 64 (h 314) n) (x : Int) (x1 : 1 ≤ x) (x2 : x ≤ 64) (P : Option Value → jH → Prop) (hP : P (some (.int (jI (sm (knF R (h 314) x) n)))) h) : ∀ (m k : Nat), n - k < m → k ≤ n → jT l 127 5 [some (.ref 313), some (.ref 1), some (.int (jI x)), some (.int (jI (sm (knF R (h 314) x) k))), some (.int (jI (k : Int)))] [] h P := by
  have ok := hR.ok
  have hn := hT.cnt ok
  have k2 := ok.2.1
  intro m
  induction m with
  | zero => intro k hk; omega
  | succ m ih =>
    intro k hk hkK
    have sb := sm_b (f := knF R (h 314) x) k (fun i _ => knF_b i)
    refine tl_iload rfl rfl ?_
    refine tl_aload_n rfl rfl ?_
    refine tl_geti (c := 10) (k9 := 1) rfl rfl rfl ?_
    rw [h1]
    refine tl_icmp_ge (tgt := 57) rfl rfl ⟨by omega, by omega⟩ ⟨by omega, by omega⟩ (fun c1 => ?_) (fun c1 => ?_)
    · skip
      refine tl_iload_n rfl rfl ?_
      refine tl_iret rfl ?_
      -- leaf 0 at 58
      have e : k = n := by omega
      rw [← e] at hP
      exact hP
    · show jT _ _ 14 _ _ _ _
      show jT _ _ 14 _ _ _ _
      refine tl_iload rfl rfl ?_
      refine tl_bipush rfl rfl ?_
      refine tl_icmp_ge (tgt := 57) rfl rfl ⟨by omega, by omega⟩ ⟨by omega, by omega⟩ (fun c2 => ?_) (fun c2 => ?_)
      · skip
        refine tl_iload_n rfl rfl ?_
        refine tl_iret rfl ?_
        -- leaf 1 at 58
        have e : k = n := by omega
        rw [← e] at hP
        exact hP
      · show jT _ _ 21 _ _ _ _
        refine tl_aload_n rfl rfl ?_
        refine tl_aload_n rfl rfl ?_
        show jT _ _ 23 _ _ _ _
        refine tl_aload_n rfl rfl ?_
        refine tl_getr (c := 10) (k9 := 0) (b := 314) rfl rfl rfl rfl ?_
        refine tl_iload rfl rfl ?_
        refine tl_iald (n := 64) rfl rfl rfl (by omega) (by omega) ?_
        rw [Int.toNat_natCast]
        have y1 := hT.pos (i := k) (by omega)
        have y2 := (tsz_s ok y1.1).1
        refine tl_v2i (c9 := 10) (k_sizeOf l h R hR (h 314 k) (by omega) (by omega)) rfl rfl rfl rfl rfl (Nat.le_of_ble_eq_true rfl) (fun z3 h3 p3 => ?_)
        obtain ⟨q3, rfl⟩ := p3
        have q3 := q3.symm
        subst q3
        refine tl_iload_n rfl rfl ?_
        refine tl_icmp_lt (tgt := 51) rfl rfl ⟨by omega, by omega⟩ ⟨by omega, by omega⟩ (fun c3 => ?_) (fun c3 => ?_)
        · skip
          show jT _ _ 51 _ _ _ _
          refine tl_iinc rfl rfl rfl ?_
          refine tl_goto (tgt := 5) rfl rfl ?_
          show jT _ _ 5 _ _ _ _
          -- leaf 2 at 5
          first
            | (have e : sm (knF R (h 314) x) (k + 1) = sm (knF R (h 314) x) k + 1 := by rw [sm]; congr 1; rw [knF, if_pos (by omega)]
               have := ih (k + 1) (by omega) (by omega)
               rw [e] at this
               exact this)
            | (have e : sm (knF R (h 314) x) (k + 1) = sm (knF R (h 314) x) k := by rw [sm, knF, if_neg (by omega), Int.add_zero]
               have := ih (k + 1) (by omega) (by omega)
               rw [e] at this
               exact this)
        · show jT _ _ 37 _ _ _ _
          refine tl_aload_n rfl rfl ?_
          refine tl_aload_n rfl rfl ?_
          refine tl_iload rfl rfl ?_
          refine tl_v2i (c9 := 10) (k_alikeA l h R hR n h1 hT k (by omega)) rfl rfl rfl rfl rfl (Nat.le_of_ble_eq_true rfl) (fun z4 h49 p4 => ?_)
          obtain ⟨q4, rfl⟩ := p4
          have q4 := q4.symm
          subst q4
          have cb := cmA_b ok hT (k := k) (by omega)
          refine tl_iload_n rfl rfl ?_
          show jT _ _ 45 _ _ _ _
          refine tl_icmp_ge (tgt := 51) rfl rfl ⟨by omega, by omega⟩ ⟨by omega, by omega⟩ (fun c4 => ?_) (fun c4 => ?_)
          · skip
            refine tl_iinc rfl rfl rfl ?_
            refine tl_goto (tgt := 5) rfl rfl ?_
            show jT _ _ 5 _ _ _ _
            -- leaf 3 at 5
            first
              | (have e : sm (knF R (h 314) x) (k + 1) = sm (knF R (h 314) x) k + 1 := by rw [sm]; congr 1; rw [knF, if_pos (by omega)]
                 have := ih (k + 1) (by omega) (by omega)
                 rw [e] at this
                 exact this)
              | (have e : sm (knF R (h 314) x) (k + 1) = sm (knF R (h 314) x) k := by rw [sm, knF, if_neg (by omega), Int.add_zero]
                 have := ih (k + 1) (by omega) (by omega)
                 rw [e] at this
                 exact this)
          · show jT _ _ 48 _ _ _ _
            refine tl_iinc rfl rfl rfl ?_
            refine tl_iinc rfl rfl rfl ?_
            refine tl_goto (tgt := 5) rfl rfl ?_
            show jT _ _ 5 _ _ _ _
            -- leaf 4 at 5
            first
              | (have e : sm (knF R (h 314) x) (k + 1) = sm (knF R (h 314) x) k + 1 := by rw [sm]; congr 1; rw [knF, if_pos (by omega)]
                 have := ih (k + 1) (by omega) (by omega)
                 rw [e] at this
                 exact this)
              | (have e : sm (knF R (h 314) x) (k + 1) = sm (knF R (h 314) x) k := by rw [sm, knF, if_neg (by omega), Int.add_zero]
                 have := ih (k + 1) (by omega) (by omega)
                 rw [e] at this
                 exact this)
set_option maxRecDepth 20000 in
set_option maxHeartbeats 1000000 in
theorem k_countKinds (l : Launch) (h : jH) (R : Nat → Int) (hR : RS h 1 R) (n : Nat) (h1 : h 313 1 = (n : Int)) (hT : TS R 64 (h 314) n) (x : Int) (x1 : 1 ≤ x) (x2 : x ≤ 64) : cI l 127 [.ref 313, .ref 1, .int (jI x)] h (fun z h' => h' = h ∧ z = sm (knF R (h 314) x) n) := by
  refine cI.of rfl rfl ?_
  refine tl_iconst rfl ?_
  refine tl_istore_n rfl (Nat.le_of_ble_eq_true rfl) rfl ?_
  refine tl_iconst rfl ?_
  refine tl_istore rfl (Nat.le_of_ble_eq_true rfl) rfl ?_
  show jT _ _ 5 _ _ _ _
  -- leaf 0 at 5
  exact k_kinds_lp l h R hR n h1 hT x x1 x2 _ ⟨_, rfl, rfl, rfl⟩ _ 0 (Nat.lt_succ_self _) (Nat.zero_le _)
set_option maxRecDepth 20000 in
set_option maxHeartbeats 1000000 in
theorem k_longR_lp (l : Launch) (h : jH) (R : Nat → Int) (hR : RS h 1 R) (n : Nat) (h1 : h 313 1 = (n : Int)) (hT : TS R 64 (h 314) n) (P : Option Value → jH → Prop) (hP : P (some (.int (jI (mxA R (h 314) n)))) h) : ∀ (m k : Nat), n - k < m → (k ≤ n ∨ (n = 0 ∧ k = 1)) → 1 ≤ k → jT l 128 4 [some (.ref 313), some (.ref 1), some (.int (jI (mxA R (h 314) k))), some (.int (jI (k : Int)))] [] h P := by
  have ok := hR.ok
  have hn := hT.cnt ok
  have k2 := ok.2.1
  intro m
  induction m with
  | zero => intro k hk; omega
  | succ m ih =>
    intro k hk hkK hk1
    refine tl_iload_n rfl rfl ?_
    refine tl_aload_n rfl rfl ?_
    refine tl_geti (c := 10) (k9 := 1) rfl rfl rfl ?_
    rw [h1]
    refine tl_icmp_ge (tgt := 29) rfl rfl ⟨by omega, by omega⟩ ⟨by omega, by omega⟩ (fun c1 => ?_) (fun c1 => ?_)
    · skip
      refine tl_iload_n rfl rfl ?_
      refine tl_iret rfl ?_
      -- leaf 0 at 30
      by_cases c : n = 0
      · have : mxA R (h 314) n = mxA R (h 314) k := by rw [c, show k = 1 by omega, mxA, mxA, cmA, if_pos rfl]; rfl
        rw [this] at hP; exact hP
      · have e : k = n := by omega
        rw [← e] at hP
        exact hP
    · show jT _ _ 12 _ _ _ _
      have mb := mxA_b ok hT k (by omega)
      show jT _ _ 12 _ _ _ _
      refine tl_iload_n rfl rfl ?_
      refine tl_aload_n rfl rfl ?_
      refine tl_aload_n rfl rfl ?_
      refine tl_iload_n rfl rfl ?_
      refine tl_v2i (c9 := 10) (k_alikeA l h R hR n h1 hT k (by omega)) rfl rfl rfl rfl rfl (Nat.le_of_ble_eq_true rfl) (fun z4 h49 p4 => ?_)
      obtain ⟨q4, rfl⟩ := p4
      have q4 := q4.symm
      subst q4
      have cb := cmA_b ok hT (k := k) (by omega)
      refine tl_s2i (c_max l h _ _ ⟨by omega, by omega⟩ ⟨by omega, by omega⟩) rfl rfl rfl (Nat.le_of_ble_eq_true rfl) (fun z5 h5 p5 => ?_)
      obtain ⟨q5, rfl⟩ := p5
      have q5 := q5.symm
      subst q5
      refine tl_istore_n rfl (Nat.le_of_ble_eq_true rfl) rfl ?_
      show jT _ _ 23 _ _ _ _
      refine tl_iinc rfl rfl rfl ?_
      refine tl_goto (tgt := 4) rfl rfl ?_
      show jT _ _ 4 _ _ _ _
      -- leaf 1 at 4
      exact ih (k + 1) (by omega) (by omega) (by omega)
set_option maxRecDepth 20000 in
set_option maxHeartbeats 1000000 in
theorem k_longR (l : Launch) (h : jH) (R : Nat → Int) (hR : RS h 1 R) (n : Nat) (h1 : h 313 1 = (n : Int)) (hT : TS R 64 (h 314) n) : cI l 128 [.ref 313, .ref 1] h (fun z h' => h' = h ∧ z = mxA R (h 314) n) := by
  refine cI.of rfl rfl ?_
  refine tl_iconst rfl ?_
  refine tl_istore_n rfl (Nat.le_of_ble_eq_true rfl) rfl ?_
  refine tl_iconst rfl ?_
  refine tl_istore_n rfl (Nat.le_of_ble_eq_true rfl) rfl ?_
  show jT _ _ 4 _ _ _ _
  -- leaf 0 at 4
  refine jT.loc ?_ (k_longR_lp l h R hR n h1 hT _ ⟨_, rfl, rfl, rfl⟩ _ 1 (Nat.lt_succ_self _) (by omega) (by omega))
  rw [show mxA R (h 314) 1 = 0 by rw [mxA, mxA, cmA, if_pos rfl]; rfl]
  rfl
set_option maxRecDepth 20000 in
set_option maxHeartbeats 1000000 in
theorem k_lowR_lp (l : Launch) (h : jH) (R : Nat → Int) (hR : RS h 1 R) (n : Nat) (h1 : h 313 1 = (n : Int)) (hT : TS R 64 (h 314) n) (x : Int) (x1 : 0 ≤ x) (x2 : x ≤ 64) (P : Option Value → jH → Prop) (hP : P (some (.int (jI (lwA R (h 314) x n)))) h) : ∀ (m k : Nat) (y : Option Value), (y = none ∨ ∃ z, y = some (.int (jI z))) → n - k < m → (k ≤ n ∨ (n = 0 ∧ k = 1)) → 1 ≤ k → jT l 129 5 [some (.ref 313), some (.ref 1), some (.int (jI x)), some (.int (jI (lwA R (h 314) x k))), some (.int (jI (k : Int))), y] [] h P := by
  have ok := hR.ok
  have hn := hT.cnt ok
  have k2 := ok.2.1
  intro m
  induction m with
  | zero => intro k y hy hk; omega
  | succ m ih =>
    intro k y hy hk hkK hk1
    refine tl_iload rfl rfl ?_
    refine tl_aload_n rfl rfl ?_
    refine tl_geti (c := 10) (k9 := 1) rfl rfl rfl ?_
    rw [h1]
    refine tl_icmp_ge (tgt := 76) rfl rfl ⟨by omega, by omega⟩ ⟨by omega, by omega⟩ (fun c1 => ?_) (fun c1 => ?_)
    · skip
      refine tl_iload_n rfl rfl ?_
      refine tl_iret rfl ?_
      -- leaf 0 at 77
      by_cases c0 : k < n
      · exfalso; omega
      by_cases c : n = 0
      · have : lwA R (h 314) x n = lwA R (h 314) x k := by rw [c, show k = 1 by omega, lwA, lwA, if_neg (by omega)]; rfl
        rw [this] at hP; exact hP
      · have e : k = n := by omega
        rw [← e] at hP
        exact hP
    · show jT _ _ 14 _ _ _ _
      have lb := lwA_b ok hT x k (by omega)
      have ya := hT.p64 ok (i := k - 1) (by omega)
      have yb := hT.p64 ok (i := k) (by omega)
      show jT _ _ 14 _ _ _ _
      refine tl_iload rfl rfl ?_
      refine tl_bipush rfl rfl ?_
      refine tl_icmp_ge (tgt := 76) rfl rfl ⟨by omega, by omega⟩ ⟨by omega, by omega⟩ (fun c2 => ?_) (fun c2 => ?_)
      · skip
        refine tl_iload_n rfl rfl ?_
        refine tl_iret rfl ?_
        -- leaf 1 at 77
        by_cases c0 : k < n
        · exfalso; omega
        by_cases c : n = 0
        · have : lwA R (h 314) x n = lwA R (h 314) x k := by rw [c, show k = 1 by omega, lwA, lwA, if_neg (by omega)]; rfl
          rw [this] at hP; exact hP
        · have e : k = n := by omega
          rw [← e] at hP
          exact hP
      · show jT _ _ 21 _ _ _ _
        refine tl_aload_n rfl rfl ?_
        refine tl_aload_n rfl rfl ?_
        show jT _ _ 23 _ _ _ _
        refine tl_iload rfl rfl ?_
        refine tl_v2i (c9 := 10) (k_alikeA l h R hR n h1 hT k (by omega)) rfl rfl rfl rfl rfl (Nat.le_of_ble_eq_true rfl) (fun z4 h49 p4 => ?_)
        obtain ⟨q4, rfl⟩ := p4
        have q4 := q4.symm
        subst q4
        have cb := cmA_b ok hT (k := k) (by omega)
        refine tl_iload_n rfl rfl ?_
        refine tl_icmp_ne (tgt := 70) rfl rfl ⟨by omega, by omega⟩ ⟨by omega, by omega⟩ (fun c3 => ?_) (fun c3 => ?_)
        · skip
          refine tl_iinc rfl rfl rfl ?_
          refine tl_goto (tgt := 5) rfl rfl ?_
          show jT _ _ 5 _ _ _ _
          -- leaf 2 at 5
          first
            | (have e : lwA R (h 314) x (k + 1) = lwA R (h 314) x k := by rw [lwA, if_neg (by omega)]
               have := ih (k + 1) _ hy (by omega) (by omega) (by omega)
               rw [e] at this
               exact this)
            | (have e : lwA R (h 314) x (k + 1) = min (h 314 (k - 1)) (h 314 k) := by rw [lwA, if_pos ⟨by omega, by omega⟩, if_pos (by omega)]
               have := ih (k + 1) (some (.int (jI (min (h 314 (k - 1)) (h 314 k))))) (Or.inr ⟨_, rfl⟩) (by omega) (by omega) (by omega)
               rw [e] at this
               exact this)
            | (have e : lwA R (h 314) x (k + 1) = min (lwA R (h 314) x k) (min (h 314 (k - 1)) (h 314 k)) := by rw [lwA, if_pos ⟨by omega, by omega⟩, if_neg (by omega)]
               have := ih (k + 1) (some (.int (jI (min (h 314 (k - 1)) (h 314 k))))) (Or.inr ⟨_, rfl⟩) (by omega) (by omega) (by omega)
               rw [e] at this
               exact this)
        · show jT _ _ 32 _ _ _ _
          refine tl_aload_n rfl rfl ?_
          show jT _ _ 33 _ _ _ _
          refine tl_getr (c := 10) (k9 := 0) (b := 314) rfl rfl rfl rfl ?_
          refine tl_iload rfl rfl ?_
          refine tl_iconst rfl ?_
          refine tl_isub rfl ?_
          refine tl_iald (n := 64) rfl rfl rfl (by omega) (by omega) ?_
          rw [show ((k : Int) - 1).toNat = k - 1 by omega]
          refine tl_aload_n rfl rfl ?_
          refine tl_getr (c := 10) (k9 := 0) (b := 314) rfl rfl rfl rfl ?_
          show jT _ _ 45 _ _ _ _
          refine tl_iload rfl rfl ?_
          refine tl_iald (n := 64) rfl rfl rfl (by omega) (by omega) ?_
          rw [Int.toNat_natCast]
          refine tl_s2i (c_min l h _ _ ⟨by omega, by omega⟩ ⟨by omega, by omega⟩) rfl rfl rfl (Nat.le_of_ble_eq_true rfl) (fun z5 h5 p5 => ?_)
          obtain ⟨q5, rfl⟩ := p5
          have q5 := q5.symm
          subst q5
          refine tl_istore rfl (Nat.le_of_ble_eq_true rfl) rfl ?_
          refine tl_iload_n rfl rfl ?_
          refine tl_iconst rfl ?_
          refine tl_icmp_ne (tgt := 63) rfl rfl ⟨by omega, by omega⟩ ⟨by omega, by omega⟩ (fun c4 => ?_) (fun c4 => ?_)
          · skip
            show jT _ _ 63 _ _ _ _
            refine tl_iload_n rfl rfl ?_
            refine tl_iload rfl rfl ?_
            refine tl_s2i (c_min l h _ _ ⟨by omega, by omega⟩ ⟨by omega, by omega⟩) rfl rfl rfl (Nat.le_of_ble_eq_true rfl) (fun z6 h6 p6 => ?_)
            obtain ⟨q6, rfl⟩ := p6
            have q6 := q6.symm
            subst q6
            refine tl_istore_n rfl (Nat.le_of_ble_eq_true rfl) rfl ?_
            refine tl_iinc rfl rfl rfl ?_
            refine tl_goto (tgt := 5) rfl rfl ?_
            show jT _ _ 5 _ _ _ _
            -- leaf 3 at 5
            first
              | (have e : lwA R (h 314) x (k + 1) = lwA R (h 314) x k := by rw [lwA, if_neg (by omega)]
                 have := ih (k + 1) _ hy (by omega) (by omega) (by omega)
                 rw [e] at this
                 exact this)
              | (have e : lwA R (h 314) x (k + 1) = min (h 314 (k - 1)) (h 314 k) := by rw [lwA, if_pos ⟨by omega, by omega⟩, if_pos (by omega)]
                 have := ih (k + 1) (some (.int (jI (min (h 314 (k - 1)) (h 314 k))))) (Or.inr ⟨_, rfl⟩) (by omega) (by omega) (by omega)
                 rw [e] at this
                 exact this)
              | (have e : lwA R (h 314) x (k + 1) = min (lwA R (h 314) x k) (min (h 314 (k - 1)) (h 314 k)) := by rw [lwA, if_pos ⟨by omega, by omega⟩, if_neg (by omega)]
                 have := ih (k + 1) (some (.int (jI (min (h 314 (k - 1)) (h 314 k))))) (Or.inr ⟨_, rfl⟩) (by omega) (by omega) (by omega)
                 rw [e] at this
                 exact this)
          · show jT _ _ 58 _ _ _ _
            refine tl_iload rfl rfl ?_
            show jT _ _ 60 _ _ _ _
            refine tl_goto (tgt := 69) rfl rfl ?_
            refine tl_istore_n rfl (Nat.le_of_ble_eq_true rfl) rfl ?_
            refine tl_iinc rfl rfl rfl ?_
            refine tl_goto (tgt := 5) rfl rfl ?_
            show jT _ _ 5 _ _ _ _
            -- leaf 4 at 5
            first
              | (have e : lwA R (h 314) x (k + 1) = lwA R (h 314) x k := by rw [lwA, if_neg (by omega)]
                 have := ih (k + 1) _ hy (by omega) (by omega) (by omega)
                 rw [e] at this
                 exact this)
              | (have e : lwA R (h 314) x (k + 1) = min (h 314 (k - 1)) (h 314 k) := by rw [lwA, if_pos ⟨by omega, by omega⟩, if_pos (by omega)]
                 have := ih (k + 1) (some (.int (jI (min (h 314 (k - 1)) (h 314 k))))) (Or.inr ⟨_, rfl⟩) (by omega) (by omega) (by omega)
                 rw [e] at this
                 exact this)
              | (have e : lwA R (h 314) x (k + 1) = min (lwA R (h 314) x k) (min (h 314 (k - 1)) (h 314 k)) := by rw [lwA, if_pos ⟨by omega, by omega⟩, if_neg (by omega)]
                 have := ih (k + 1) (some (.int (jI (min (h 314 (k - 1)) (h 314 k))))) (Or.inr ⟨_, rfl⟩) (by omega) (by omega) (by omega)
                 rw [e] at this
                 exact this)
set_option maxRecDepth 20000 in
set_option maxHeartbeats 1000000 in
theorem k_lowR (l : Launch) (h : jH) (R : Nat → Int) (hR : RS h 1 R) (n : Nat) (h1 : h 313 1 = (n : Int)) (hT : TS R 64 (h 314) n) (x : Int) (x1 : 0 ≤ x) (x2 : x ≤ 64) : cI l 129 [.ref 313, .ref 1, .int (jI x)] h (fun z h' => h' = h ∧ z = lwA R (h 314) x n) := by
  refine cI.of rfl rfl ?_
  refine tl_iconst rfl ?_
  refine tl_istore_n rfl (Nat.le_of_ble_eq_true rfl) rfl ?_
  refine tl_iconst rfl ?_
  refine tl_istore rfl (Nat.le_of_ble_eq_true rfl) rfl ?_
  show jT _ _ 5 _ _ _ _
  -- leaf 0 at 5
  refine jT.loc ?_ (k_lowR_lp l h R hR n h1 hT x x1 x2 _ ⟨_, rfl, rfl, rfl⟩ _ 1 none (Or.inl rfl) (Nat.lt_succ_self _) (by omega) (by omega))
  rw [show lwA R (h 314) x 1 = -1 by rw [lwA, lwA, if_neg (by omega)]]
  rfl
