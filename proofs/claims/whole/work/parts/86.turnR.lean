/-! turn, of the reference -/
set_option maxRecDepth 20000 in
set_option maxHeartbeats 1000000 in
theorem r_tr_A (l : Launch) (h g : jH) (R : Nat → Int) (n no : Nat) (n64 : n ≤ 64) (no64 : no ≤ 64) (hg : OGR h g n) (e34 : h 388 34 = (no : Int)) (ka kb : Int) (gb9 : ∀ i, i < n → -1 ≤ g 0 i ∧ g 0 i ≤ 64) (q : Nat) (hq9 : q < no) (P : Option Value → jH → Prop) (hx : ∀ mem, (mem 414 q = lo g q n n ∧ (∀ p, p ≠ q → mem 414 p = h 414 p) ∧ ∀ x, x ≠ 414 → mem x = h x) → jT l 297 128 [some (.ref 388), some (.int (jI (ka))), some (.int (jI (kb))), some (.int (jI ((q : Int)))), some (.int (jI (-1)))] [] mem P) : ∀ (m : Nat) (d : Nat) (mem : jH), n - d < m → (d ≤ n ∧ mem 414 q = lo g q n d ∧ (∀ p, p ≠ q → mem 414 p = h 414 p) ∧ ∀ x, x ≠ 414 → mem x = h x) → jT l 297 89 [some (.ref 388), some (.int (jI (ka))), some (.int (jI (kb))), some (.int (jI ((q : Int)))), some (.int (jI ((n : Int) - 1 - (d : Int))))] [] mem P := by
  intro m
  induction m with
  | zero => intro d mem hk; omega
  | succ m ih =>
    intro d mem hk hi
    obtain ⟨i0, i1, i2, fr⟩ := hi
    have lb := lo_b (g := g) (q := (q : Int)) (n := n) d i0
    have kf : n ≤ d ∨ (d < n ∧ mem 403 (n - 1 - d) = g 0 (n - 1 - d) ∧ -1 ≤ g 0 (n - 1 - d) ∧ g 0 (n - 1 - d) ≤ 64 ∧ lo g q n (d + 1) = (if g 0 (n - 1 - d) = (q : Int) then ((n - 1 - d : Nat) : Int) else lo g q n d)) := by
      by_cases c : d < n
      · exact Or.inr ⟨c, by rw [fr 403 (by decide)]; exact (hg.2 _ (by omega)).1, (gb9 _ (by omega)).1, (gb9 _ (by omega)).2, by rw [lo]⟩
      · exact Or.inl (by omega)
    refine tl_iload rfl rfl ?_
    refine tl_if_lt (tgt := 128) rfl rfl ⟨by omega, by omega⟩ (fun c1 => ?_) (fun c1 => ?_)
    · skip
      show jT _ _ 128 _ _ _ _
      -- leaf 0 at 128
      have e : d = n := by omega
      subst e
      refine jT.loc ?_ (hx mem ⟨i1, i2, fr⟩)
      rw [show (d : Int) - 1 - (d : Int) = -1 by omega]; try rfl
    · show jT _ _ 94 _ _ _ _
      refine tl_aload_n rfl rfl ?_
      refine tl_getr (c := 12) (k9 := 46) (b := 414) rfl rfl rfl rfl ?_
      refine tl_iload_n rfl rfl ?_
      refine tl_aload_n rfl rfl ?_
      show jT _ _ 100 _ _ _ _
      refine tl_getr (c := 12) (k9 := 23) (b := 403) rfl rfl rfl rfl ?_
      refine tl_iload rfl rfl ?_
      refine tl_iald (n := 64) rfl rfl rfl (by omega) (by omega) ?_
      rw [show ((n : Int) - 1 - (d : Int)).toNat = n - 1 - d by omega, show mem 403 (n - 1 - d) = g 0 (n - 1 - d) by omega]
      refine tl_iload_n rfl rfl ?_
      refine tl_icmp_ne (tgt := 115) rfl rfl ⟨by omega, by omega⟩ ⟨by omega, by omega⟩ (fun c2 => ?_) (fun c2 => ?_)
      · skip
        refine tl_aload_n rfl rfl ?_
        refine tl_getr (c := 12) (k9 := 46) (b := 414) rfl rfl rfl rfl ?_
        show jT _ _ 119 _ _ _ _
        refine tl_iload_n rfl rfl ?_
        refine tl_iald (n := 64) rfl rfl rfl (by omega) (by omega) ?_
        rw [Int.toNat_natCast, i1]
        refine tl_iast (n := 64) rfl rfl rfl (by omega) (by omega) ?_
        rw [Int.toNat_natCast]
        refine tl_iinc rfl rfl rfl ?_
        refine tl_goto (tgt := 89) rfl rfl ?_
        show jT _ _ 89 _ _ _ _
        -- leaf 1 at 89
        refine jT.loc ?_ (ih (d + 1) _ (by omega) ⟨by omega, ?_, fun p hp => by rw [hs_k hp]; exact i2 p hp, fun x hx9 => by rw [hs_O hx9]; exact fr x hx9⟩)
        · rw [show (n : Int) - 1 - ((d + 1 : Nat) : Int) = (n : Int) - 1 - (d : Int) + -1 by omega]; try rfl
        · rw [hs_s]
          first
            | (rw [lo, if_pos (by omega)]; omega)
            | (rw [lo, if_neg (by omega)])
      · show jT _ _ 110 _ _ _ _
        refine tl_iload rfl rfl ?_
        refine tl_goto (tgt := 121) rfl rfl ?_
        show jT _ _ 121 _ _ _ _
        refine tl_iast (n := 64) rfl rfl rfl (by omega) (by omega) ?_
        rw [Int.toNat_natCast]
        refine tl_iinc rfl rfl rfl ?_
        refine tl_goto (tgt := 89) rfl rfl ?_
        show jT _ _ 89 _ _ _ _
        -- leaf 2 at 89
        refine jT.loc ?_ (ih (d + 1) _ (by omega) ⟨by omega, ?_, fun p hp => by rw [hs_k hp]; exact i2 p hp, fun x hx9 => by rw [hs_O hx9]; exact fr x hx9⟩)
        · rw [show (n : Int) - 1 - ((d + 1 : Nat) : Int) = (n : Int) - 1 - (d : Int) + -1 by omega]; try rfl
        · rw [hs_s]
          first
            | (rw [lo, if_pos (by omega)]; omega)
            | (rw [lo, if_neg (by omega)])
set_option maxRecDepth 20000 in
set_option maxHeartbeats 1000000 in
theorem r_tr_B (l : Launch) (h g : jH) (R : Nat → Int) (n no : Nat) (n64 : n ≤ 64) (no64 : no ≤ 64) (hg : OGR h g n) (e34 : h 388 34 = (no : Int)) (ka kb : Int) (gb9 : ∀ i, i < n → -1 ≤ g 0 i ∧ g 0 i ≤ 64) (P : Option Value → jH → Prop) (hx : ∀ mem y4, ((∀ p, p < no → mem 414 p = lo g p n n) ∧ ∀ x, x ≠ 414 → mem x = h x) → jT l 297 134 [some (.ref 388), some (.int (jI (ka))), some (.int (jI (kb))), some (.int (jI ((no : Int)))), y4] [] mem P) : ∀ (m : Nat) (q : Nat) (mem : jH) (y4 : Option Value), no - q < m → (q ≤ no ∧ (∀ p, p < q → mem 414 p = lo g p n n) ∧ ∀ x, x ≠ 414 → mem x = h x) → jT l 297 66 [some (.ref 388), some (.int (jI (ka))), some (.int (jI (kb))), some (.int (jI ((q : Int)))), y4] [] mem P := by
  intro m
  induction m with
  | zero => intro q mem y4 hk; omega
  | succ m ih =>
    intro q mem y4 hk hi
    obtain ⟨i0, i1, fr⟩ := hi
    refine tl_iload_n rfl rfl ?_
    refine tl_aload_n rfl rfl ?_
    refine tl_geti (c := 12) (k9 := 34) rfl rfl rfl ?_
    rw [fr 388 (by decide), e34]
    refine tl_icmp_ge (tgt := 134) rfl rfl ⟨by omega, by omega⟩ ⟨by omega, by omega⟩ (fun c1 => ?_) (fun c1 => ?_)
    · skip
      show jT _ _ 134 _ _ _ _
      -- leaf 0 at 134
      have e : q = no := by omega
      subst e
      exact hx mem _ ⟨i1, fr⟩
    · show jT _ _ 74 _ _ _ _
      refine tl_aload_n rfl rfl ?_
      refine tl_getr (c := 12) (k9 := 46) (b := 414) rfl rfl rfl rfl ?_
      show jT _ _ 78 _ _ _ _
      refine tl_iload_n rfl rfl ?_
      refine tl_iconst rfl ?_
      refine tl_iast (n := 64) rfl rfl rfl (by omega) (by omega) ?_
      rw [Int.toNat_natCast]
      refine tl_aload_n rfl rfl ?_
      refine tl_geti (c := 12) (k9 := 25) rfl rfl rfl ?_
      rw [hs_o (by decide), fr 388 (by decide), hg.1]
      refine tl_iconst rfl ?_
      refine tl_isub rfl ?_
      show jT _ _ 87 _ _ _ _
      refine tl_istore rfl (Nat.le_of_ble_eq_true rfl) rfl ?_
      show jT _ _ 89 _ _ _ _
      -- leaf 1 at 89
      refine jT.loc ?_ (r_tr_A l (hs mem 414 q (-1)) g R n no n64 no64 ⟨by rw [hs_o (by decide), fr 388 (by decide)]; exact hg.1, fun i hi => by rw [hs_o (by decide), hs_o (by decide), fr 403 (by decide), fr 404 (by decide)]; exact hg.2 i hi⟩ (by rw [hs_o (by decide), fr 388 (by decide)]; exact e34) ka kb gb9 q (by omega) _ (fun mem2 hj => ?_) _ 0 _ (Nat.lt_succ_self _) ⟨Nat.zero_le _, hs_s, fun _ _ => rfl, fun _ _ => rfl⟩)
      · rw [show (n : Int) - 1 - ((0 : Nat) : Int) = (n : Int) - 1 by omega]; try rfl
      · obtain ⟨j1, j2, j3⟩ := hj
        refine tl_iinc rfl rfl rfl ?_
        refine tl_goto (tgt := 66) rfl rfl ?_
        show jT _ _ 66 _ _ _ _
        -- leaf 0 at 66
        refine ih (q + 1) mem2 _ (by omega) ⟨by omega, fun p hp => ?_, fun x hx9 => by rw [j3 x hx9, hs_O hx9]; exact fr x hx9⟩
        by_cases c : p = q
        · subst c; exact j1
        · rw [j2 p c, hs_k c]; exact i1 p (by omega)
set_option maxRecDepth 20000 in
set_option maxHeartbeats 1000000 in
theorem r_tr_C (l : Launch) (h g : jH) (R : Nat → Int) (n no : Nat) (n64 : n ≤ 64) (no64 : no ≤ 64) (e34 : h 388 34 = (no : Int)) (ka kb : Int) (e390 : h 390 = R) (ok : Rok R) (r5 : R 5 = (no : Int)) (cm : ∀ q, q < n → h 413 q = coV g R q) (cb : ∀ i, i < n → byt (coV g R i)) (h414 : ∀ p, p < no → h 414 p = lo g p n n) (P : Option Value → jH → Prop) (hx : ∀ mem y4, ((∀ p, p < no → mem 403 p = TRN g R n 0 p ∧ mem 404 p = TRN g R n 1 p) ∧ ∀ x, x ≠ 403 → x ≠ 404 → mem x = h x) → jT l 297 216 [some (.ref 388), some (.int (jI (ka))), some (.int (jI (kb))), some (.int (jI ((no : Int)))), y4] [] mem P) : ∀ (m : Nat) (q : Nat) (mem : jH) (y4 : Option Value), no - q < m → (q ≤ no ∧ (∀ p, p < q → mem 403 p = TRN g R n 0 p ∧ mem 404 p = TRN g R n 1 p) ∧ ∀ x, x ≠ 403 → x ≠ 404 → mem x = h x) → jT l 297 144 [some (.ref 388), some (.int (jI (ka))), some (.int (jI (kb))), some (.int (jI ((q : Int)))), y4] [] mem P := by
  have ok9 := ok
  obtain ⟨k1, k2, k3, k4, k5, k6, k7⟩ := ok9
  intro m
  induction m with
  | zero => intro q mem y4 hk; omega
  | succ m ih =>
    intro q mem y4 hk hi
    obtain ⟨i0, i1, fr⟩ := hi
    have lb := lo_b (g := g) (q := (q : Int)) (n := n) n (Nat.le_refl _)
    have kf : no ≤ q ∨ (q < no ∧ mem 414 q = lo g q n n ∧ 0 ≤ R (6 + q) ∧ R (6 + q) ≤ 255 ∧ (lo g q n n = -1 ∨ (mem 413 (lo g q n n).toNat = coV g R (lo g q n n).toNat ∧ 0 ≤ coV g R (lo g q n n).toNat ∧ coV g R (lo g q n n).toNat ≤ 255))) := by
      by_cases c : q < no
      · have b := k5 q (by omega)
        refine Or.inr ⟨c, by rw [fr 414 (by decide) (by decide)]; exact h414 q c, b.1, b.2, ?_⟩
        by_cases d : lo g q n n = -1
        · exact Or.inl d
        · have e := cb (lo g q n n).toNat (by omega)
          exact Or.inr ⟨by rw [fr 413 (by decide) (by decide)]; exact cm _ (by omega), e.1, e.2⟩
      · exact Or.inl (by omega)
    have m390 : mem 390 = R := by rw [fr 390 (by decide) (by decide)]; exact e390
    refine tl_iload_n rfl rfl ?_
    refine tl_aload_n rfl rfl ?_
    refine tl_geti (c := 12) (k9 := 34) rfl rfl rfl ?_
    rw [fr 388 (by decide) (by decide), e34]
    refine tl_icmp_ge (tgt := 216) rfl rfl ⟨by omega, by omega⟩ ⟨by omega, by omega⟩ (fun c1 => ?_) (fun c1 => ?_)
    · skip
      show jT _ _ 216 _ _ _ _
      -- leaf 0 at 216
      have e : q = no := by omega
      subst e
      exact hx mem _ ⟨i1, fr⟩
    · show jT _ _ 152 _ _ _ _
      refine tl_aload_n rfl rfl ?_
      refine tl_getr (c := 12) (k9 := 23) (b := 403) rfl rfl rfl rfl ?_
      show jT _ _ 156 _ _ _ _
      refine tl_iload_n rfl rfl ?_
      refine tl_aload_n rfl rfl ?_
      refine tl_getr (c := 12) (k9 := 46) (b := 414) rfl rfl rfl rfl ?_
      refine tl_iload_n rfl rfl ?_
      refine tl_iald (n := 64) rfl rfl rfl (by omega) (by omega) ?_
      rw [Int.toNat_natCast, show mem 414 q = lo g q n n by omega]
      refine tl_iast (n := 64) rfl rfl rfl (by omega) (by omega) ?_
      rw [Int.toNat_natCast]
      refine tl_aload_n rfl rfl ?_
      show jT _ _ 165 _ _ _ _
      refine tl_getr (c := 12) (k9 := 24) (b := 404) rfl rfl rfl rfl ?_
      refine tl_iload_n rfl rfl ?_
      refine tl_aload_n rfl rfl ?_
      refine tl_getr (c := 12) (k9 := 23) (b := 403) rfl rfl rfl rfl ?_
      refine tl_iload_n rfl rfl ?_
      refine tl_iald (n := 64) rfl rfl rfl (by omega) (by omega) ?_
      rw [Int.toNat_natCast, hs_s]
      refine tl_iconst rfl ?_
      show jT _ _ 176 _ _ _ _
      refine tl_icmp_ne (tgt := 188) rfl rfl ⟨by omega, by omega⟩ ⟨by omega, by omega⟩ (fun c2 => ?_) (fun c2 => ?_)
      · skip
        refine tl_aload_n rfl rfl ?_
        refine tl_iconst rfl ?_
        refine tl_iload_n rfl rfl ?_
        refine tl_v2i (c9 := 12) (c_at l _ 0 (q : Int) (by decide) (by decide) (by omega) (by omega)) rfl rfl rfl rfl rfl (Nat.le_of_ble_eq_true rfl) (fun z1 h1 p1 => ?_)
        obtain ⟨q1, p1⟩ := p1
        have q1 := q1.symm
        subst q1
        rw [hs_o (by decide), m390, show ((6 : Int) + 65 * 0 + (q : Int)).toNat = 6 + q by omega] at p1
        subst p1
        refine tl_aload_n rfl rfl ?_
        refine tl_getr (c := 12) (k9 := 44) (b := 413) rfl rfl rfl rfl ?_
        show jT _ _ 198 _ _ _ _
        refine tl_aload_n rfl rfl ?_
        refine tl_getr (c := 12) (k9 := 23) (b := 403) rfl rfl rfl rfl ?_
        refine tl_iload_n rfl rfl ?_
        refine tl_iald (n := 64) rfl rfl rfl (by omega) (by omega) ?_
        rw [Int.toNat_natCast, hs_s]
        refine tl_iald (n := 64) rfl rfl rfl (by omega) (by omega) ?_
        rw [hs_o (by decide), show mem 413 (lo g q n n).toNat = coV g R (lo g q n n).toNat by omega]
        refine tl_isub rfl ?_
        refine tl_s1i (r_byteIn l _ _ ⟨by omega, by omega⟩) rfl rfl rfl (Nat.le_of_ble_eq_true rfl) (fun z2 h2 p2 => ?_)
        obtain ⟨q2, p2⟩ := p2
        have q2 := q2.symm
        subst q2
        subst p2
        show jT _ _ 209 _ _ _ _
        refine tl_iast (n := 64) rfl rfl rfl (by omega) (by omega) ?_
        rw [Int.toNat_natCast]
        refine tl_iinc rfl rfl rfl ?_
        refine tl_goto (tgt := 144) rfl rfl ?_
        show jT _ _ 144 _ _ _ _
        -- leaf 1 at 144
        refine ih (q + 1) _ _ (by omega) ⟨by omega, fun p hp => ?_, fun x x1 x2 => by rw [hs_O x2, hs_O x1]; exact fr x x1 x2⟩
        by_cases c : p = q
        · subst c
          rw [TRN_0, TRN_1, hs_o (by decide), hs_s, hs_s]
          refine ⟨rfl, ?_⟩
          first
            | (rw [trv, if_pos (by omega)])
            | (rw [trv, if_neg (by omega)])
        · rw [hs_k2 c, hs_k2 c, hs_k2 c, hs_k2 c]; exact i1 p (by omega)
      · show jT _ _ 179 _ _ _ _
        refine tl_aload_n rfl rfl ?_
        refine tl_iconst rfl ?_
        refine tl_iload_n rfl rfl ?_
        refine tl_v2i (c9 := 12) (c_at l _ 0 (q : Int) (by decide) (by decide) (by omega) (by omega)) rfl rfl rfl rfl rfl (Nat.le_of_ble_eq_true rfl) (fun z1 h1 p1 => ?_)
        obtain ⟨q1, p1⟩ := p1
        have q1 := q1.symm
        subst q1
        rw [hs_o (by decide), m390, show ((6 : Int) + 65 * 0 + (q : Int)).toNat = 6 + q by omega] at p1
        subst p1
        show jT _ _ 185 _ _ _ _
        refine tl_goto (tgt := 209) rfl rfl ?_
        refine tl_iast (n := 64) rfl rfl rfl (by omega) (by omega) ?_
        rw [Int.toNat_natCast]
        refine tl_iinc rfl rfl rfl ?_
        refine tl_goto (tgt := 144) rfl rfl ?_
        show jT _ _ 144 _ _ _ _
        -- leaf 2 at 144
        refine ih (q + 1) _ _ (by omega) ⟨by omega, fun p hp => ?_, fun x x1 x2 => by rw [hs_O x2, hs_O x1]; exact fr x x1 x2⟩
        by_cases c : p = q
        · subst c
          rw [TRN_0, TRN_1, hs_o (by decide), hs_s, hs_s]
          refine ⟨rfl, ?_⟩
          first
            | (rw [trv, if_pos (by omega)])
            | (rw [trv, if_neg (by omega)])
        · rw [hs_k2 c, hs_k2 c, hs_k2 c, hs_k2 c]; exact i1 p (by omega)
set_option maxRecDepth 20000 in
set_option maxHeartbeats 4000000 in
theorem r_turn (l : Launch) (g h : jH) (t ka kb : Int) (hI0 : IC g h t) (hka : jr ka) (hkb : jr kb) : cI l 297 [.ref 388, .int (jI ka), .int (jI kb)] h (PRF (Dturn (Tz h) ka kb)) := by
  have ka1 := hka.1
  have ka2 := hka.2
  have kb1 := hkb.1
  have kb2 := hkb.2
  refine cI.of rfl rfl ?_
  refine tl_aload_n rfl rfl ?_
  refine tl_iconst rfl ?_
  refine tl_puti (c := 12) (k9 := 0) rfl rfl rfl rfl ?_
  have hI := hI0.z
  change jT _ _ _ _ _ (Tz h) _
  generalize Tz h = m at hI ⊢
  refine tl_iload_n rfl rfl ?_
  refine tl_s1i (c_isSlotR l _ ka ⟨by omega, by omega⟩) rfl rfl rfl (Nat.le_of_ble_eq_true rfl) (fun zs1 hs1 ps1 => ?_)
  obtain ⟨qs1, ps1⟩ := ps1
  have qs1 := qs1.symm
  subst qs1
  have bs1 : zs1 = 0 ∧ (ka < 0 ∨ 2 < ka) ∨ zs1 = 1 ∧ 0 ≤ ka ∧ ka ≤ 2 := by rw [ps1]; split <;> omega
  refine tl_if_eq (tgt := 19) rfl rfl ⟨by omega, by omega⟩ (fun c1 => ?_) (fun c1 => ?_)
  · skip
    show jT _ _ 19 _ _ _ _
    refine tl_aload_n rfl rfl ?_
    refine tl_iconst rfl ?_
    refine tl_v1i (c9 := 12) (c_tell l _ _ ⟨by omega, by omega⟩ (by omega)) rfl rfl rfl rfl rfl (Nat.le_of_ble_eq_true rfl) (fun zt ht pt => ?_)
    obtain ⟨rfl, pt⟩ := pt
    refine tl_iret rfl ?_
    -- leaf 0 at 24
    refine ⟨_, rfl, ?_⟩
    rw [Dturn]
    repeat (first | rw [if_pos (by omega)] | rw [if_neg (by omega)])
    exact ⟨rfl, by rw [pt]; exact RF.rfl'⟩
  · show jT _ _ 12 _ _ _ _
    refine tl_iload_n rfl rfl ?_
    refine tl_s1i (c_isSlotR l _ kb ⟨by omega, by omega⟩) rfl rfl rfl (Nat.le_of_ble_eq_true rfl) (fun zs2 hs2 ps2 => ?_)
    obtain ⟨qs2, ps2⟩ := ps2
    have qs2 := qs2.symm
    subst qs2
    have bs2 : zs2 = 0 ∧ (kb < 0 ∨ 2 < kb) ∨ zs2 = 1 ∧ 0 ≤ kb ∧ kb ≤ 2 := by rw [ps2]; split <;> omega
    refine tl_if_ne (tgt := 25) rfl rfl ⟨by omega, by omega⟩ (fun c2 => ?_) (fun c2 => ?_)
    · skip
      show jT _ _ 25 _ _ _ _
      refine tl_aload_n rfl rfl ?_
      refine tl_iload_n rfl rfl ?_
      refine tl_v1i (c9 := 12) (c_has l _ ka (by omega) (by omega) (by have a := (hI.sok ka (by omega) (by omega)).1; exact ⟨by omega, by omega⟩)) rfl rfl rfl rfl rfl (Nat.le_of_ble_eq_true rfl) (fun zh1 hh1 ph1 => ?_)
      obtain ⟨qh1, ph1⟩ := ph1
      have qh1 := qh1.symm
      subst qh1
      have bh1 : zh1 = 0 ∧ m 390 (200 + 301 * ka).toNat = -1 ∨ zh1 = 1 ∧ m 390 (200 + 301 * ka).toNat ≠ -1 := by rw [ph1]; split <;> omega
      refine tl_if_ne (tgt := 40) rfl rfl ⟨by omega, by omega⟩ (fun c3 => ?_) (fun c3 => ?_)
      · skip
        have sb1 := hI.sok.b (k := ka) (by omega) (by omega) (by omega)
        refine tl_aload_n rfl rfl ?_
        refine tl_aload_n rfl rfl ?_
        refine tl_iload_n rfl rfl ?_
        show jT _ _ 43 _ _ _ _
        refine tl_iconst rfl ?_
        refine tl_v2i (c9 := 12) (r_readSlot l m (m 390) rfl hI.ok hI.sok ka (by omega) (by omega) (by omega) true) rfl rfl rfl rfl rfl (Nat.le_of_ble_eq_true rfl) (fun z1 h1 p1 => ?_)
        obtain ⟨e1, g1, f1⟩ := p1
        have rb1 := rdF_b (slL (m 390) ka) true (m 390)
        subst e1
        refine tl_puti (c := 12) (k9 := 45) rfl rfl rfl rfl ?_
        refine tl_aload_n rfl rfl ?_
        refine tl_geti (c := 12) (k9 := 45) rfl rfl rfl ?_
        rw [hs_s]
        refine tl_if_eq (tgt := 64) rfl rfl ⟨by omega, by omega⟩ (fun c4 => ?_) (fun c4 => ?_)
        · skip
          show jT _ _ 64 _ _ _ _
          -- leaf 1 at 64
          have z1 : (rdF (slL (m 390) ka) true (m 390)) = 0 := by omega
          have G1 := g1 z1
          have A := rdA sb1.1 sb1.2.2.2 z1
          have An := A.2.2.1
          have Ao := A.1
          have Af := A.2.2.2.2.2.2 rfl
          have Af1 := Af.1
          have jb := TUL_b (R := m 390) (a := ka) hI.ok sb1.1 sb1.2.2.2 z1
          refine tl_iconst rfl ?_
          refine tl_istore_n rfl (Nat.le_of_ble_eq_true rfl) rfl ?_
          show jT _ _ 66 _ _ _ _
          -- leaf 0 at 66
          refine r_tr_B l (hs h1 388 45 (rdF (slL (m 390) ka) true (m 390))) (rG (slL (m 390) ka)) (m 390) (rNs (slL (m 390) ka)).toNat (rOs (slL (m 390) ka)).toNat (by omega) (by omega) ⟨by rw [hs_k (by decide)]; exact G1.1.2.2.1.1, fun i hi => by rw [hs_o (by decide), hs_o (by decide)]; exact G1.1.2.2.1.2 i hi⟩ (by rw [hs_k (by decide), G1.1.1.1]; omega) ka kb (fun i hi => by have := (A.2.2.2.2.1.2 i hi).1; omega) _ (fun h2 y4 hb => ?_) _ 0 _ _ (Nat.lt_succ_self _) ⟨Nat.zero_le _, fun q hq => absurd hq (by omega), fun _ _ => rfl⟩
          obtain ⟨b1, b2⟩ := hb
          refine tl_aload_n rfl rfl ?_
          refine tl_aload_n rfl rfl ?_
          refine tl_geti (c := 12) (k9 := 34) rfl rfl rfl ?_
          rw [b2 388 (by decide), hs_k (by decide), G1.1.1.1]
          refine tl_puti (c := 12) (k9 := 25) rfl rfl rfl rfl ?_
          refine tl_iconst rfl ?_
          refine tl_istore_n rfl (Nat.le_of_ble_eq_true rfl) rfl ?_
          show jT _ _ 144 _ _ _ _
          -- leaf 0 at 144
          refine jT.loc (L' := [some (.ref 388), some (.int (jI (ka))), some (.int (jI (kb))), some (.int (jI (((0 : Nat) : Int)))), y4]) rfl (r_tr_C l (hs h2 388 25 (rOs (slL (m 390) ka))) (rG (slL (m 390) ka)) (m 390) (rNs (slL (m 390) ka)).toNat (rOs (slL (m 390) ka)).toNat (by omega) (by omega) (by rw [hs_k (by decide), b2 388 (by decide), hs_k (by decide), G1.1.1.1]; omega) ka kb (by rw [hs_O (by decide), b2 390 (by decide), hs_O (by decide), f1.1 390 (by decide) (by omega)]) hI.ok (by omega) (fun q hq => by rw [hs_o (by decide), b2 413 (by decide), hs_o (by decide)]; exact G1.2 rfl q hq) (coV_b Af.2.2.1) (fun p hp => by rw [hs_o (by decide)]; exact b1 p hp) _ (fun h3 y4 hc => ?_) _ 0 _ y4 (Nat.lt_succ_self _) ⟨Nat.zero_le _, fun q hq => absurd hq (by omega), fun _ _ _ => rfl⟩)
          obtain ⟨c1, c3⟩ := hc
          rw [show (rOs (slL (m 390) ka)).toNat = (m 390 5).toNat by omega] at c1 ⊢
          refine tl_aload_n rfl rfl ?_
          refine tl_aload_n rfl rfl ?_
          refine tl_geti (c := 12) (k9 := 36) rfl rfl rfl ?_
          rw [c3 388 (by decide) (by decide), hs_k (by decide), b2 388 (by decide), hs_k (by decide), G1.1.1.2.2.1]
          refine tl_aload_n rfl rfl ?_
          refine tl_geti (c := 12) (k9 := 37) rfl rfl rfl ?_
          rw [c3 388 (by decide) (by decide), hs_k (by decide), b2 388 (by decide), hs_k (by decide), G1.1.1.2.2.2.1]
          refine tl_aload_n rfl rfl ?_
          show jT _ _ 226 _ _ _ _
          refine tl_geti (c := 12) (k9 := 34) rfl rfl rfl ?_
          rw [c3 388 (by decide) (by decide), hs_k (by decide), b2 388 (by decide), hs_k (by decide), G1.1.1.1, Af.1, show m 390 5 = ((m 390 5).toNat : Int) by omega]
          refine tl_aload_n rfl rfl ?_
          refine tl_geti (c := 12) (k9 := 35) rfl rfl rfl ?_
          rw [c3 388 (by decide) (by decide), hs_k (by decide), b2 388 (by decide), hs_k (by decide), G1.1.1.2.1, Af.2.1]
          refine tl_v4v (c9 := 12) (r_pack l h3 (TRN (rG (slL (m 390) ka)) (m 390) (rNs (slL (m 390) ka)).toNat) (m 390 5).toNat ⟨by rw [c3 388 (by decide) (by decide), hs_s, Af.1]; omega, fun i hi => c1 i hi⟩ jb.1 (rNs (slL (m 390) ka)) (rNc (slL (m 390) ka)) (ckO (m 390)) A.2.2.1 (by have := A.2.2.2.1; omega) ckO_b) rfl rfl rfl rfl rfl (Nat.le_of_ble_eq_true rfl) (fun h5 p5 => ?_)
          obtain ⟨kL, f5⟩ := p5
          have rf5 : RF (lat m 0) h5 := RFlatI (fun x hx => by rw [f5.1 x (by omega) (by omega) (by omega), c3 x (by omega) (by omega), hs_O (by omega), b2 x (by omega), hs_O (by omega), f1.1 x (by omega) (by omega)]) (fun q hq => by rw [f5.2 q (by omega) (by omega), c3 388 (by decide) (by decide), hs_k (by omega), b2 388 (by decide), hs_k (by omega), f1.2 q (by omega) (by omega) (by omega)]) (by rw [f5.2 45 (by decide) (by decide), c3 388 (by decide) (by decide), hs_k (by decide), b2 388 (by decide), hs_s]; omega)
          have nu := hI.nund
          have nu5 : 0 ≤ h5 388 6 ∧ h5 388 6 ≤ 16 := by rw [rf5.2 6 (by omega)]; show 0 ≤ hs m 388 45 0 388 6 ∧ hs m 388 45 0 388 6 ≤ 16; rw [hs_k (by decide)]; exact nu
          refine tl_aload_n rfl rfl ?_
          refine tl_bipush rfl rfl ?_
          refine tl_v1v (c9 := 12) (r_remember l h5 10 nu5.1 nu5.2) rfl rfl rfl rfl rfl (Nat.le_of_ble_eq_true rfl) (fun h6 p6 => ?_)
          subst p6
          have kL2 : ML (Trem h5 10) (TUL (m 390) ka) := ⟨by rw [Trem_n (by decide)]; exact kL.1, fun i hi => by rw [Trem_o (by decide) (by decide) (by decide)]; exact kL.2 i hi⟩
          show jT _ _ 242 _ _ _ _
          refine tl_aload_n rfl rfl ?_
          refine tl_aload_n rfl rfl ?_
          refine tl_iload_n rfl rfl ?_
          refine tl_v1i (c9 := 12) (r_putMade l (Trem h5 10) kb (by omega) (by omega) _ kL2 (by omega)) rfl rfl rfl rfl rfl (Nat.le_of_ble_eq_true rfl) (fun z7 h7 p7 => ?_)
          obtain ⟨rfl, p7⟩ := p7
          subst p7
          refine tl_v1i (c9 := 12) (c_tell l _ _ ⟨by omega, by omega⟩ (by omega)) rfl rfl rfl rfl rfl (Nat.le_of_ble_eq_true rfl) (fun zt ht pt => ?_)
          obtain ⟨rfl, pt⟩ := pt
          refine tl_iret rfl ?_
          -- leaf 0 at 251
          refine ⟨_, rfl, ?_⟩
          rw [Dturn]
          repeat (first | rw [if_pos (by omega)] | rw [if_neg (by omega)])
          change ht = Ttell _ _ at pt
          refine ⟨rfl, ?_⟩
          rw [pt]
          exact RF.tell ((rf5.rem 10).slot kb _) _ (by omega)
        · show jT _ _ 57 _ _ _ _
          refine tl_aload_n rfl rfl ?_
          show jT _ _ 58 _ _ _ _
          refine tl_bipush rfl rfl ?_
          refine tl_v1i (c9 := 12) (c_tell l _ _ ⟨by omega, by omega⟩ (by omega)) rfl rfl rfl rfl rfl (Nat.le_of_ble_eq_true rfl) (fun zt ht pt => ?_)
          obtain ⟨rfl, pt⟩ := pt
          refine tl_iret rfl ?_
          -- leaf 2 at 63
          refine ⟨_, rfl, ?_⟩
          rw [Dturn]
          repeat (first | rw [if_pos (by omega)] | rw [if_neg (by omega)])
          have rf9 : RF (lat m (rdF (slL (m 390) ka) true (m 390))) (hs h1 388 45 (rdF (slL (m 390) ka) true (m 390))) := RFlatI (fun x hx => by rw [hs_O (by omega), f1.1 x (by omega) (by omega)]) (fun q hq => by rw [hs_k (by omega), f1.2 q (by omega) (by omega) (by omega)]) hs_s
          change ht = Ttell _ _ at pt
          refine ⟨rfl, ?_⟩
          rw [pt]
          exact RF.tell rf9 _ (by decide)
      · show jT _ _ 33 _ _ _ _
        refine tl_aload_n rfl rfl ?_
        refine tl_bipush rfl rfl ?_
        refine tl_v1i (c9 := 12) (c_tell l _ _ ⟨by omega, by omega⟩ (by omega)) rfl rfl rfl rfl rfl (Nat.le_of_ble_eq_true rfl) (fun zt ht pt => ?_)
        obtain ⟨rfl, pt⟩ := pt
        refine tl_iret rfl ?_
        -- leaf 3 at 39
        refine ⟨_, rfl, ?_⟩
        rw [Dturn]
        repeat (first | rw [if_pos (by omega)] | rw [if_neg (by omega)])
        exact ⟨rfl, by rw [pt]; exact RF.rfl'⟩
    · show jT _ _ 19 _ _ _ _
      show jT _ _ 19 _ _ _ _
      refine tl_aload_n rfl rfl ?_
      refine tl_iconst rfl ?_
      refine tl_v1i (c9 := 12) (c_tell l _ _ ⟨by omega, by omega⟩ (by omega)) rfl rfl rfl rfl rfl (Nat.le_of_ble_eq_true rfl) (fun zt ht pt => ?_)
      obtain ⟨rfl, pt⟩ := pt
      refine tl_iret rfl ?_
      -- leaf 4 at 24
      refine ⟨_, rfl, ?_⟩
      rw [Dturn]
      repeat (first | rw [if_pos (by omega)] | rw [if_neg (by omega)])
      exact ⟨rfl, by rw [pt]; exact RF.rfl'⟩
