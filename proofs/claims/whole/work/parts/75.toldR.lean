/-! a patch read: rows laid, what comes, checks, of the reference -/
set_option maxRecDepth 20000 in
set_option maxHeartbeats 1000000 in
theorem r_lr_lp (l : Launch) (h : jH) (g : Nat → Int) (n : Nat) (n64 : n ≤ 64) (hn : h 388 25 = (n : Int)) (hg : ∀ q, q < n → h 403 q = g q) (gb : ∀ q, q < n → -1 ≤ g q ∧ g q ≤ 64) (e : Bool) (P : Option Value → jH → Prop) (hP : ∀ mem, ((∀ q, q < n → decide (g q = -1) = e → mem 404 q = h 406 (cnt g e q)) ∧ (∀ q, q < n → decide (g q = -1) ≠ e → mem 404 q = h 404 q) ∧ ∀ x, x ≠ 404 → mem x = h x) → P none mem) : ∀ (m : Nat) (k : Nat) (mem : jH), n - k < m → (k ≤ n ∧ (∀ q, q < k → decide (g q = -1) = e → mem 404 q = h 406 (cnt g e q)) ∧ (∀ q, q < n → (k ≤ q ∨ decide (g q = -1) ≠ e) → mem 404 q = h 404 q) ∧ ∀ x, x ≠ 404 → mem x = h x) → jT l 283 4 [some (.ref 388), some (.int (jI (zb e))), some (.int (jI ((cnt g e k : Int)))), some (.int (jI ((k : Int))))] [] mem P := by
  have eb := zb_b e
  intro m
  induction m with
  | zero => intro k mem hk; omega
  | succ m ih =>
    intro k mem hk hi
    obtain ⟨i0, i1, i2, fr⟩ := hi
    have cl := cnt_le (g := g) (e := e) k
    have gk : k < n → -1 ≤ g k ∧ g k ≤ 64 := gb k
    have gk2 : n ≤ k ∨ (-1 ≤ g k ∧ g k ≤ 64) := by
      by_cases c : k < n
      · exact Or.inr (gk c)
      · exact Or.inl (by omega)
    clear gk
    refine tl_iload_n rfl rfl ?_
    refine tl_aload_n rfl rfl ?_
    refine tl_geti (c := 12) (k9 := 25) rfl rfl rfl ?_
    rw [fr 388 (by decide), hn]
    refine tl_icmp_ge (tgt := 52) rfl rfl ⟨by omega, by omega⟩ ⟨by omega, by omega⟩ (fun c1 => ?_) (fun c1 => ?_)
    · skip
      refine tl_ret rfl ?_
      -- leaf 0 at 52
      have ek : k = n := by omega
      subst ek
      exact hP _ ⟨i1, fun q hq hd => i2 q hq (Or.inr hd), fr⟩
    · show jT _ _ 12 _ _ _ _
      refine tl_aload_n rfl rfl ?_
      show jT _ _ 13 _ _ _ _
      refine tl_getr (c := 12) (k9 := 23) (b := 403) rfl rfl rfl rfl ?_
      refine tl_iload_n rfl rfl ?_
      refine tl_iald (n := 64) rfl rfl rfl (by omega) (by omega) ?_
      rw [Int.toNat_natCast, fr 403 (by decide), hg k (by omega)]
      refine tl_iconst rfl ?_
      refine tl_icmp_ne (tgt := 26) rfl rfl ⟨by omega, by omega⟩ ⟨by omega, by omega⟩ (fun c2 => ?_) (fun c2 => ?_)
      · skip
        refine tl_iconst rfl ?_
        refine tl_iload_n rfl rfl ?_
        show jT _ _ 28 _ _ _ _
        refine tl_icmp_ne (tgt := 46) rfl rfl ⟨by omega, by omega⟩ ⟨by omega, by omega⟩ (fun c3 => ?_) (fun c3 => ?_)
        · skip
          refine tl_iinc rfl rfl rfl ?_
          refine tl_goto (tgt := 4) rfl rfl ?_
          show jT _ _ 4 _ _ _ _
          -- leaf 1 at 4
          have de : decide (g k = -1) ≠ e := by
            cases e
            · have z0 : zb false = 0 := rfl
              rw [decide_eq_true (by omega)]; decide
            · have z0 : zb true = 1 := rfl
              rw [decide_eq_false (by omega)]; decide
          have cs : cnt g e (k + 1) = cnt g e k := by rw [cnt, if_neg de]
          refine jT.loc ?_ (ih (k + 1) mem (by omega) ⟨by omega, fun q hq hd => ?_, fun q hq hd => ?_, fr⟩)
          · rw [cs, show ((k + 1 : Nat) : Int) = (k : Int) + 1 by omega]; rfl
          · by_cases c : q = k
            · subst c; exact absurd hd de
            · exact i1 q (by omega) hd
          · by_cases c : q = k
            · subst c; exact i2 q hq (Or.inr de)
            · exact i2 q hq (hd.elim (fun w => Or.inl (by omega)) Or.inr)
        · show jT _ _ 31 _ _ _ _
          refine tl_aload_n rfl rfl ?_
          refine tl_getr (c := 12) (k9 := 24) (b := 404) rfl rfl rfl rfl ?_
          refine tl_iload_n rfl rfl ?_
          refine tl_aload_n rfl rfl ?_
          show jT _ _ 37 _ _ _ _
          refine tl_getr (c := 12) (k9 := 28) (b := 406) rfl rfl rfl rfl ?_
          refine tl_iload_n rfl rfl ?_
          refine tl_iald (n := 64) rfl rfl rfl (by omega) (by omega) ?_
          rw [Int.toNat_natCast, fr 406 (by decide)]
          refine tl_iast (n := 64) rfl rfl rfl (by omega) (by omega) ?_
          rw [Int.toNat_natCast]
          refine tl_iinc rfl rfl rfl ?_
          refine tl_iinc rfl rfl rfl ?_
          refine tl_goto (tgt := 4) rfl rfl ?_
          show jT _ _ 4 _ _ _ _
          -- leaf 2 at 4
          have de : decide (g k = -1) = e := by
            cases e
            · have z0 : zb false = 0 := rfl
              exact decide_eq_false (by omega)
            · have z0 : zb true = 1 := rfl
              exact decide_eq_true (by omega)
          have cs : cnt g e (k + 1) = cnt g e k + 1 := by rw [cnt, if_pos de]
          refine jT.loc ?_ (ih (k + 1) _ (by omega) ⟨by omega, fun q hq hd => ?_, fun q hq hd => ?_, fun x hx => by rw [hs_O hx]; exact fr x hx⟩)
          · rw [cs, show ((k + 1 : Nat) : Int) = (k : Int) + 1 by omega, show ((cnt g e k + 1 : Nat) : Int) = (cnt g e k : Int) + 1 by omega]; rfl
          · by_cases c : q = k
            · subst c; rw [hs_s]
            · rw [hs_k c]; exact i1 q (by omega) hd
          · rw [hs_k (by rintro rfl; rcases hd with hd | hd; omega; exact hd de)]; exact i2 q hq (hd.elim (fun w => Or.inl (by omega)) Or.inr)
      · show jT _ _ 22 _ _ _ _
        show jT _ _ 22 _ _ _ _
        refine tl_iconst rfl ?_
        refine tl_goto (tgt := 27) rfl rfl ?_
        refine tl_iload_n rfl rfl ?_
        refine tl_icmp_ne (tgt := 46) rfl rfl ⟨by omega, by omega⟩ ⟨by omega, by omega⟩ (fun c4 => ?_) (fun c4 => ?_)
        · skip
          refine tl_iinc rfl rfl rfl ?_
          refine tl_goto (tgt := 4) rfl rfl ?_
          show jT _ _ 4 _ _ _ _
          -- leaf 3 at 4
          have de : decide (g k = -1) ≠ e := by
            cases e
            · have z0 : zb false = 0 := rfl
              rw [decide_eq_true (by omega)]; decide
            · have z0 : zb true = 1 := rfl
              rw [decide_eq_false (by omega)]; decide
          have cs : cnt g e (k + 1) = cnt g e k := by rw [cnt, if_neg de]
          refine jT.loc ?_ (ih (k + 1) mem (by omega) ⟨by omega, fun q hq hd => ?_, fun q hq hd => ?_, fr⟩)
          · rw [cs, show ((k + 1 : Nat) : Int) = (k : Int) + 1 by omega]; rfl
          · by_cases c : q = k
            · subst c; exact absurd hd de
            · exact i1 q (by omega) hd
          · by_cases c : q = k
            · subst c; exact i2 q hq (Or.inr de)
            · exact i2 q hq (hd.elim (fun w => Or.inl (by omega)) Or.inr)
        · show jT _ _ 31 _ _ _ _
          refine tl_aload_n rfl rfl ?_
          show jT _ _ 32 _ _ _ _
          refine tl_getr (c := 12) (k9 := 24) (b := 404) rfl rfl rfl rfl ?_
          refine tl_iload_n rfl rfl ?_
          refine tl_aload_n rfl rfl ?_
          refine tl_getr (c := 12) (k9 := 28) (b := 406) rfl rfl rfl rfl ?_
          refine tl_iload_n rfl rfl ?_
          refine tl_iald (n := 64) rfl rfl rfl (by omega) (by omega) ?_
          rw [Int.toNat_natCast, fr 406 (by decide)]
          refine tl_iast (n := 64) rfl rfl rfl (by omega) (by omega) ?_
          rw [Int.toNat_natCast]
          show jT _ _ 43 _ _ _ _
          refine tl_iinc rfl rfl rfl ?_
          refine tl_iinc rfl rfl rfl ?_
          refine tl_goto (tgt := 4) rfl rfl ?_
          show jT _ _ 4 _ _ _ _
          -- leaf 4 at 4
          have de : decide (g k = -1) = e := by
            cases e
            · have z0 : zb false = 0 := rfl
              exact decide_eq_false (by omega)
            · have z0 : zb true = 1 := rfl
              exact decide_eq_true (by omega)
          have cs : cnt g e (k + 1) = cnt g e k + 1 := by rw [cnt, if_pos de]
          refine jT.loc ?_ (ih (k + 1) _ (by omega) ⟨by omega, fun q hq hd => ?_, fun q hq hd => ?_, fun x hx => by rw [hs_O hx]; exact fr x hx⟩)
          · rw [cs, show ((k + 1 : Nat) : Int) = (k : Int) + 1 by omega, show ((cnt g e k + 1 : Nat) : Int) = (cnt g e k : Int) + 1 by omega]; rfl
          · by_cases c : q = k
            · subst c; rw [hs_s]
            · rw [hs_k c]; exact i1 q (by omega) hd
          · rw [hs_k (by rintro rfl; rcases hd with hd | hd; omega; exact hd de)]; exact i2 q hq (hd.elim (fun w => Or.inl (by omega)) Or.inr)
set_option maxRecDepth 20000 in
set_option maxHeartbeats 1000000 in
theorem r_layRow (l : Launch) (h : jH) (g : Nat → Int) (n : Nat) (n64 : n ≤ 64) (hn : h 388 25 = (n : Int)) (hg : ∀ q, q < n → h 403 q = g q) (gb : ∀ q, q < n → -1 ≤ g q ∧ g q ≤ 64) (e : Bool) : cV l 283 [.ref 388, .int (jI (zb e))] h (fun h' => ((∀ q, q < n → decide (g q = -1) = e → h' 404 q = h 406 (cnt g e q)) ∧ (∀ q, q < n → decide (g q = -1) ≠ e → h' 404 q = h 404 q) ∧ ∀ x, x ≠ 404 → h' x = h x)) := by
  refine cV.of rfl rfl ?_
  refine tl_iconst rfl ?_
  refine tl_istore_n rfl (Nat.le_of_ble_eq_true rfl) rfl ?_
  refine tl_iconst rfl ?_
  refine tl_istore_n rfl (Nat.le_of_ble_eq_true rfl) rfl ?_
  show jT _ _ 4 _ _ _ _
  -- leaf 0 at 4
  exact r_lr_lp l h g n n64 hn hg gb e _ (fun mem hz => ⟨rfl, hz⟩) _ 0 h (Nat.lt_succ_self _) ⟨Nat.zero_le _, fun q hq => absurd hq (by omega), fun q _ _ => rfl, fun _ _ => rfl⟩
set_option maxRecDepth 20000 in
set_option maxHeartbeats 1000000 in
theorem r_lc_lp (l : Launch) (h g : jH) (n : Nat) (n64 : n ≤ 64) (hg : OGR h g n) (R : Nat → Int) (e390 : h 390 = R) (ok : Rok R) (hs9 : OGs g R n) (P : Option Value → jH → Prop) (hP : ∀ mem, ((∀ q, q < n → mem 413 q = coV g R q) ∧ ∀ x, x ≠ 413 → mem x = h x) → P none mem) : ∀ (m : Nat) (k : Nat) (mem : jH), n - k < m → (k ≤ n ∧ (∀ q, q < k → mem 413 q = coV g R q) ∧ ∀ x, x ≠ 413 → mem x = h x) → jT l 286 2 [some (.ref 388), some (.int (jI ((k : Int))))] [] mem P := by
  have ok9 := ok
  obtain ⟨k1, k2, k3, k4, k5, k6, k7⟩ := ok9
  intro m
  induction m with
  | zero => intro k mem hk; omega
  | succ m ih =>
    intro k mem hk hi
    obtain ⟨i0, i1, fr⟩ := hi
    have sk : n ≤ k ∨ (h 403 k = g 0 k ∧ h 404 k = g 1 k ∧ (g 0 k = -1 ∨ (0 ≤ g 0 k ∧ g 0 k < R 5)) ∧ 0 ≤ g 1 k ∧ g 1 k ≤ 255) := by
      by_cases c : k < n
      · exact Or.inr ⟨(hg.2 k c).1, (hg.2 k c).2, (hs9 k c).1, (hs9 k c).2.1, (hs9 k c).2.2⟩
      · exact Or.inl (by omega)
    refine tl_iload_n rfl rfl ?_
    refine tl_aload_n rfl rfl ?_
    refine tl_geti (c := 12) (k9 := 25) rfl rfl rfl ?_
    rw [fr 388 (by decide), hg.1]
    refine tl_icmp_ge (tgt := 63) rfl rfl ⟨by omega, by omega⟩ ⟨by omega, by omega⟩ (fun c1 => ?_) (fun c1 => ?_)
    · skip
      refine tl_ret rfl ?_
      -- leaf 0 at 63
      have e : k = n := by omega
      subst e
      exact hP _ ⟨i1, fr⟩
    · show jT _ _ 10 _ _ _ _
      refine tl_aload_n rfl rfl ?_
      show jT _ _ 11 _ _ _ _
      refine tl_getr (c := 12) (k9 := 44) (b := 413) rfl rfl rfl rfl ?_
      refine tl_iload_n rfl rfl ?_
      refine tl_aload_n rfl rfl ?_
      refine tl_getr (c := 12) (k9 := 23) (b := 403) rfl rfl rfl rfl ?_
      refine tl_iload_n rfl rfl ?_
      refine tl_iald (n := 64) rfl rfl rfl (by omega) (by omega) ?_
      rw [Int.toNat_natCast, fr 403 (by decide), (hg.2 k (by omega)).1]
      refine tl_iconst rfl ?_
      show jT _ _ 22 _ _ _ _
      refine tl_icmp_ne (tgt := 34) rfl rfl ⟨by omega, by omega⟩ ⟨by omega, by omega⟩ (fun c2 => ?_) (fun c2 => ?_)
      · skip
        refine tl_aload_n rfl rfl ?_
        refine tl_iconst rfl ?_
        refine tl_aload_n rfl rfl ?_
        refine tl_getr (c := 12) (k9 := 23) (b := 403) rfl rfl rfl rfl ?_
        refine tl_iload_n rfl rfl ?_
        refine tl_iald (n := 64) rfl rfl rfl (by omega) (by omega) ?_
        rw [Int.toNat_natCast, fr 403 (by decide), (hg.2 k (by omega)).1]
        show jT _ _ 42 _ _ _ _
        refine tl_v2i (c9 := 12) (c_at l _ 0 (g 0 k) (by decide) (by decide) (by omega) (by omega)) rfl rfl rfl rfl rfl (Nat.le_of_ble_eq_true rfl) (fun z1 h1 p1 => ?_)
        obtain ⟨q1, e1⟩ := p1
        have q1 := q1.symm
        subst q1
        rw [show ((6 : Int) + 65 * 0 + (g 0 k)).toNat = 6 + (g 0 k).toNat by omega, fr 390 (by decide), e390] at e1
        subst e1
        have y1 := k5 (g 0 k).toNat (by omega)
        have y2 := y1.1
        have y3 := y1.2
        refine tl_aload_n rfl rfl ?_
        refine tl_getr (c := 12) (k9 := 24) (b := 404) rfl rfl rfl rfl ?_
        refine tl_iload_n rfl rfl ?_
        refine tl_iald (n := 64) rfl rfl rfl (by omega) (by omega) ?_
        rw [Int.toNat_natCast, fr 404 (by decide), (hg.2 k (by omega)).2]
        refine tl_iadd rfl ?_
        refine tl_sipush rfl rfl ?_
        show jT _ _ 55 _ _ _ _
        refine tl_irem rfl (by omega) (by omega) (by omega) (by omega) ?_
        refine tl_iast (n := 64) rfl rfl rfl (by omega) (by omega) ?_
        rw [Int.toNat_natCast]
        refine tl_iinc rfl rfl rfl ?_
        refine tl_goto (tgt := 2) rfl rfl ?_
        show jT _ _ 2 _ _ _ _
        -- leaf 1 at 2
        refine jT.loc ?_ (ih (k + 1) _ (by omega) ⟨by omega, fun q hq => ?_, fun x hx => by rw [hs_O hx]; exact fr x hx⟩)
        · rw [show ((k + 1 : Nat) : Int) = (k : Int) + 1 by omega]; rfl
        · by_cases c : q = k
          · subst c
            rw [hs_s, coV]
            first | rw [if_pos (by omega)] | rw [if_neg (by omega)]
          · rw [hs_k c]; exact i1 q (by omega)
      · show jT _ _ 25 _ _ _ _
        refine tl_aload_n rfl rfl ?_
        refine tl_getr (c := 12) (k9 := 24) (b := 404) rfl rfl rfl rfl ?_
        refine tl_iload_n rfl rfl ?_
        show jT _ _ 30 _ _ _ _
        refine tl_iald (n := 64) rfl rfl rfl (by omega) (by omega) ?_
        rw [Int.toNat_natCast, fr 404 (by decide), (hg.2 k (by omega)).2]
        refine tl_goto (tgt := 56) rfl rfl ?_
        refine tl_iast (n := 64) rfl rfl rfl (by omega) (by omega) ?_
        rw [Int.toNat_natCast]
        refine tl_iinc rfl rfl rfl ?_
        refine tl_goto (tgt := 2) rfl rfl ?_
        show jT _ _ 2 _ _ _ _
        -- leaf 2 at 2
        refine jT.loc ?_ (ih (k + 1) _ (by omega) ⟨by omega, fun q hq => ?_, fun x hx => by rw [hs_O hx]; exact fr x hx⟩)
        · rw [show ((k + 1 : Nat) : Int) = (k : Int) + 1 by omega]; rfl
        · by_cases c : q = k
          · subst c
            rw [hs_s, coV]
            first | rw [if_pos (by omega)] | rw [if_neg (by omega)]
          · rw [hs_k c]; exact i1 q (by omega)
set_option maxRecDepth 20000 in
set_option maxHeartbeats 1000000 in
theorem r_layComes (l : Launch) (h g : jH) (n : Nat) (n64 : n ≤ 64) (hg : OGR h g n) (R : Nat → Int) (e390 : h 390 = R) (ok : Rok R) (hs9 : OGs g R n) : cV l 286 [.ref 388] h (fun h' => (∀ q, q < n → h' 413 q = coV g R q) ∧ ∀ x, x ≠ 413 → h' x = h x) := by
  refine cV.of rfl rfl ?_
  refine tl_iconst rfl ?_
  refine tl_istore_n rfl (Nat.le_of_ble_eq_true rfl) rfl ?_
  show jT _ _ 2 _ _ _ _
  -- leaf 0 at 2
  exact r_lc_lp l h g n n64 hg R e390 ok hs9 _ (fun mem hz => ⟨rfl, hz⟩) _ 0 h (Nat.lt_succ_self _) ⟨Nat.zero_le _, fun q hq => absurd hq (by omega), fun _ _ => rfl⟩
set_option maxRecDepth 20000 in
set_option maxHeartbeats 1000000 in
theorem r_comesCheck_lp (l : Launch) (h : jH) (f : Nat → Int) (n : Nat) (n300 : n ≤ 300) (n64 : n ≤ 64) (hn : h 388 25 = (n : Int)) (hf : ∀ i, i < n → h 413 i = f i) (fb : ∀ i, i < n → byt (f i)) (P : Option Value → jH → Prop) (hP : P (some (.int (jI (ckF f n)))) h) : ∀ (m : Nat) (k : Nat), n - k < m → (k ≤ n) → jT l 287 4 [some (.ref 388), some (.int (jI (ckF f k))), some (.int (jI ((k : Int))))] [] h P := by
  intro m
  induction m with
  | zero => intro k hk; omega
  | succ m ih =>
    intro k hk hi
    have cb := ckF_b f k
    have es : ckF f (k + 1) = (3 * ckF f k + f k) % 257 := rfl
    refine tl_iload_n rfl rfl ?_
    refine tl_aload_n rfl rfl ?_
    refine tl_geti (c := 12) (k9 := 25) rfl rfl rfl ?_
    rw [hn]
    refine tl_icmp_ge (tgt := 33) rfl rfl ⟨by omega, by omega⟩ ⟨by omega, by omega⟩ (fun c1 => ?_) (fun c1 => ?_)
    · skip
      refine tl_iload_n rfl rfl ?_
      refine tl_iret rfl ?_
      -- leaf 0 at 34
      have e : k = n := by omega
      subst e
      exact hP
    · show jT _ _ 12 _ _ _ _
      show jT _ _ 12 _ _ _ _
      refine tl_iconst rfl ?_
      refine tl_iload_n rfl rfl ?_
      refine tl_imul rfl ?_
      refine tl_aload_n rfl rfl ?_
      refine tl_getr (c := 12) (k9 := 44) (b := 413) rfl rfl rfl rfl ?_
      refine tl_iload_n rfl rfl ?_
      refine tl_iald (n := 64) rfl rfl rfl (by omega) (by omega) ?_
      rw [Int.toNat_natCast, hf k (by omega)]
      have vb := fb k (by omega)
      have vb1 := vb.1
      have vb2 := vb.2
      show jT _ _ 21 _ _ _ _
      refine tl_iadd rfl ?_
      refine tl_sipush rfl rfl ?_
      refine tl_irem rfl (by omega) (by omega) (by omega) (by omega) ?_
      refine tl_istore_n rfl (Nat.le_of_ble_eq_true rfl) rfl ?_
      refine tl_iinc rfl rfl rfl ?_
      refine tl_goto (tgt := 4) rfl rfl ?_
      show jT _ _ 4 _ _ _ _
      -- leaf 1 at 4
      refine jT.loc ?_ (ih (k + 1) (by omega) (by omega))
      rw [es, show ((k + 1 : Nat) : Int) = (k : Int) + 1 by omega]
      rfl
set_option maxRecDepth 20000 in
set_option maxHeartbeats 1000000 in
theorem r_comesCheck (l : Launch) (h : jH) (f : Nat → Int) (n : Nat) (n300 : n ≤ 300) (n64 : n ≤ 64) (hn : h 388 25 = (n : Int)) (hf : ∀ i, i < n → h 413 i = f i) (fb : ∀ i, i < n → byt (f i)) : cI l 287 [.ref 388] h (fun z h' => h' = h ∧ z = ckF f n) := by
  refine cI.of rfl rfl ?_
  refine tl_iconst rfl ?_
  refine tl_istore_n rfl (Nat.le_of_ble_eq_true rfl) rfl ?_
  refine tl_iconst rfl ?_
  refine tl_istore_n rfl (Nat.le_of_ble_eq_true rfl) rfl ?_
  show jT _ _ 4 _ _ _ _
  -- leaf 0 at 4
  exact r_comesCheck_lp l h f n n300 n64 hn hf fb _ ⟨_, rfl, rfl, rfl⟩ _ 0 (Nat.lt_succ_self _) (Nat.zero_le _)
set_option maxRecDepth 20000 in
set_option maxHeartbeats 1000000 in
theorem r_toldCheck_lp (l : Launch) (h : jH) (f : Nat → Int) (n : Nat) (n300 : n ≤ 300)  (hf : ∀ i, i < n → h 407 i = f i) (fb : ∀ i, i < n → byt (f i)) (P : Option Value → jH → Prop) (hP : P (some (.int (jI (ckF f n)))) h) : ∀ (m : Nat) (k : Nat), n - k < m → (k ≤ n) → jT l 288 4 [some (.ref 388), some (.int (jI ((n : Int)))), some (.int (jI (ckF f k))), some (.int (jI ((k : Int))))] [] h P := by
  intro m
  induction m with
  | zero => intro k hk; omega
  | succ m ih =>
    intro k hk hi
    have cb := ckF_b f k
    have es : ckF f (k + 1) = (3 * ckF f k + f k) % 257 := rfl
    refine tl_iload_n rfl rfl ?_
    refine tl_iload_n rfl rfl ?_
    refine tl_icmp_ge (tgt := 30) rfl rfl ⟨by omega, by omega⟩ ⟨by omega, by omega⟩ (fun c1 => ?_) (fun c1 => ?_)
    · skip
      refine tl_iload_n rfl rfl ?_
      refine tl_iret rfl ?_
      -- leaf 0 at 31
      have e : k = n := by omega
      subst e
      exact hP
    · show jT _ _ 9 _ _ _ _
      refine tl_iconst rfl ?_
      show jT _ _ 10 _ _ _ _
      refine tl_iload_n rfl rfl ?_
      refine tl_imul rfl ?_
      refine tl_aload_n rfl rfl ?_
      refine tl_getr (c := 12) (k9 := 30) (b := 407) rfl rfl rfl rfl ?_
      refine tl_iload_n rfl rfl ?_
      refine tl_iald (n := 300) rfl rfl rfl (by omega) (by omega) ?_
      rw [Int.toNat_natCast, hf k (by omega)]
      have vb := fb k (by omega)
      have vb1 := vb.1
      have vb2 := vb.2
      refine tl_iadd rfl ?_
      show jT _ _ 19 _ _ _ _
      refine tl_sipush rfl rfl ?_
      refine tl_irem rfl (by omega) (by omega) (by omega) (by omega) ?_
      refine tl_istore_n rfl (Nat.le_of_ble_eq_true rfl) rfl ?_
      refine tl_iinc rfl rfl rfl ?_
      refine tl_goto (tgt := 4) rfl rfl ?_
      show jT _ _ 4 _ _ _ _
      -- leaf 1 at 4
      refine jT.loc ?_ (ih (k + 1) (by omega) (by omega))
      rw [es, show ((k + 1 : Nat) : Int) = (k : Int) + 1 by omega]
      rfl
set_option maxRecDepth 20000 in
set_option maxHeartbeats 1000000 in
theorem r_toldCheck (l : Launch) (h : jH) (f : Nat → Int) (n : Nat) (n300 : n ≤ 300)  (hf : ∀ i, i < n → h 407 i = f i) (fb : ∀ i, i < n → byt (f i)) : cI l 288 [.ref 388, .int (jI (n : Int))] h (fun z h' => h' = h ∧ z = ckF f n) := by
  refine cI.of rfl rfl ?_
  refine tl_iconst rfl ?_
  refine tl_istore_n rfl (Nat.le_of_ble_eq_true rfl) rfl ?_
  refine tl_iconst rfl ?_
  refine tl_istore_n rfl (Nat.le_of_ble_eq_true rfl) rfl ?_
  show jT _ _ 4 _ _ _ _
  -- leaf 0 at 4
  exact r_toldCheck_lp l h f n n300 hf fb _ ⟨_, rfl, rfl, rfl⟩ _ 0 (Nat.lt_succ_self _) (Nat.zero_le _)
set_option maxRecDepth 20000 in
set_option maxHeartbeats 1000000 in
theorem r_fails2 (l : Launch) (h : jH) (f : Int) (k3 : h 388 33 = f) (k8 : 0 ≤ f ∧ f ≤ 7) (so why : Int) (s01 : so = 0 ∨ so = 1) (w0 : 0 ≤ why) (w7 : why ≤ 7) : cV l 275 [.ref 388, .int (jI so), .int (jI why)] h (fun h' => h' = hs h 388 33 (if f = 0 ∧ so = 1 then why else f)) := by
  refine cV.of rfl rfl ?_
  refine tl_aload_n rfl rfl ?_
  refine tl_aload_n rfl rfl ?_
  refine tl_geti (c := 12) (k9 := 33) rfl rfl rfl ?_
  rw [k3]
  refine tl_if_ne (tgt := 16) rfl rfl ⟨by omega, by omega⟩ (fun c1 => ?_) (fun c1 => ?_)
  · skip
    refine tl_aload_n rfl rfl ?_
    refine tl_geti (c := 12) (k9 := 33) rfl rfl rfl ?_
    rw [k3]
    show jT _ _ 20 _ _ _ _
    refine tl_puti (c := 12) (k9 := 33) rfl rfl rfl rfl ?_
    refine tl_ret rfl ?_
    -- leaf 0 at 23
    first | (rw [if_pos (by omega)]; exact ⟨rfl, rfl⟩) | (rw [if_neg (by omega)]; exact ⟨rfl, rfl⟩)
  · show jT _ _ 8 _ _ _ _
    refine tl_iload_n rfl rfl ?_
    refine tl_if_eq (tgt := 16) rfl rfl ⟨by omega, by omega⟩ (fun c2 => ?_) (fun c2 => ?_)
    · skip
      refine tl_aload_n rfl rfl ?_
      refine tl_geti (c := 12) (k9 := 33) rfl rfl rfl ?_
      rw [k3]
      refine tl_puti (c := 12) (k9 := 33) rfl rfl rfl rfl ?_
      show jT _ _ 23 _ _ _ _
      refine tl_ret rfl ?_
      -- leaf 1 at 23
      first | (rw [if_pos (by omega)]; exact ⟨rfl, rfl⟩) | (rw [if_neg (by omega)]; exact ⟨rfl, rfl⟩)
    · show jT _ _ 12 _ _ _ _
      refine tl_iload_n rfl rfl ?_
      refine tl_goto (tgt := 20) rfl rfl ?_
      refine tl_puti (c := 12) (k9 := 33) rfl rfl rfl rfl ?_
      refine tl_ret rfl ?_
      -- leaf 2 at 23
      first | (rw [if_pos (by omega)]; exact ⟨rfl, rfl⟩) | (rw [if_neg (by omega)]; exact ⟨rfl, rfl⟩)
