/-! apply, of the reference -/
def PGR (h U : jH) : Prop := h 388 51 = U 1 0 ∧ h 388 48 = U 1 1 ∧ h 388 49 = U 1 2 ∧ ∀ i : Nat, (i : Int) < U 1 0 → h 416 i = U 0 i
theorem pgk_u {fr : Int} {U : jH} (u : UI fr U) {p : Int} {k : Nat} (h1 : (k : Int) ≤ U 1 0) (h2 : ∀ i, i < k → U 0 i ≠ p) (h3 : (k : Int) < U 1 0 → U 0 k = p) : pgk U p = k := by
  have u1 := u.1
  have u2 := u.2.1
  refine fst_uniq (Nat.zero_le _) (by omega) (fun i _ hi => decide_eq_true ⟨by omega, h2 i hi⟩) (decide_eq_false (fun w => w.2 (h3 w.1)))
theorem RF.ap {Y X Z : jH} {a b : Int} {o : Nat} {L : List Int} (r : RF Y X) (e : ∀ x, x ≠ 388 → x ≠ 390 → x ≠ 416 → Z x = X x) (e8 : ∀ q, q ≠ 48 → q ≠ 49 → q ≠ 51 → Z 388 q = X 388 q) (ea : Z 388 48 = a) (eb : Z 388 49 = b) (e9 : Z 390 = Rfil (X 390) o L) : RF (Tpg (Tfil Y o L) a b) Z := by
  refine ⟨fun x hx => ?_, fun q hq => ?_⟩
  · by_cases c : x = 390
    · subst c; rw [e9, Tpg, hs_O (by decide), hs_O (by decide), Tfil, hw_s, r.1 390 (by omega)]
    · rw [e x (by omega) c (by omega), Tpg, hs_O (by omega), hs_O (by omega), Tfil, hw_o c]; exact r.1 x hx
  · by_cases c : q = 49
    · subst c; rw [eb, Tpg, hs_s]
    · by_cases d : q = 48
      · subst d; rw [ea, Tpg, hs_k (by decide), hs_s]
      · rw [e8 q d c (by omega), Tpg, hs_k c, hs_k d, Tfil, hw_o (by decide)]; exact r.2 q hq
set_option maxRecDepth 20000 in
set_option maxHeartbeats 1000000 in
theorem r_rp_A (l : Launch) (h U : jH) (fr p : Int) (u : UI fr U) (p7 : 0 ≤ p ∧ p ≤ 7) (k9 : PGR h U) (e4 : h 390 4 = fr) (lb : 0 ≤ U 1 1 ∧ U 1 1 ≤ 1000) (P : Option Value → jH → Prop) (hx : jT l 298 26 [some (.ref 388), some (.int (jI (p))), some (.int (jI ((pgk U p : Int)))), none] [] h P) : ∀ (m : Nat) (k : Nat), 8 - k < m → ((k : Int) ≤ U 1 0 ∧ ∀ i, i < k → U 0 i ≠ p) → jT l 298 2 [some (.ref 388), some (.int (jI (p))), some (.int (jI ((k : Int)))), none] [] h P := by
  have u1 := u.1
  have u2 := u.2.1
  intro m
  induction m with
  | zero => intro k hk; omega
  | succ m ih =>
    intro k hk hi
    obtain ⟨i0, i1⟩ := hi
    have kf : U 1 0 ≤ (k : Int) ∨ ((k : Int) < U 1 0 ∧ h 416 k = U 0 k ∧ 0 ≤ U 0 k ∧ U 0 k ≤ 7) := by
      by_cases c : (k : Int) < U 1 0
      · have a := u.2.2.2.1 k c
        exact Or.inr ⟨c, k9.2.2.2 k c, a.1, a.2⟩
      · exact Or.inl (by omega)
    refine tl_iload_n rfl rfl ?_
    refine tl_aload_n rfl rfl ?_
    refine tl_geti (c := 12) (k9 := 51) rfl rfl rfl ?_
    rw [k9.1]
    refine tl_icmp_ge (tgt := 26) rfl rfl ⟨by omega, by omega⟩ ⟨by omega, by omega⟩ (fun c1 => ?_) (fun c1 => ?_)
    · skip
      show jT _ _ 26 _ _ _ _
      -- leaf 0 at 26
      have e : pgk U p = k := pgk_u u i0 i1 (fun w => by omega)
      rw [e] at hx
      exact hx
    · show jT _ _ 10 _ _ _ _
      refine tl_aload_n rfl rfl ?_
      refine tl_getr (c := 12) (k9 := 50) (b := 416) rfl rfl rfl rfl ?_
      show jT _ _ 14 _ _ _ _
      refine tl_iload_n rfl rfl ?_
      refine tl_iald (n := 8) rfl rfl rfl (by omega) (by omega) ?_
      rw [Int.toNat_natCast, show h 416 k = U 0 k by omega]
      refine tl_iload_n rfl rfl ?_
      refine tl_icmp_eq (tgt := 26) rfl rfl ⟨by omega, by omega⟩ ⟨by omega, by omega⟩ (fun c2 => ?_) (fun c2 => ?_)
      · skip
        show jT _ _ 26 _ _ _ _
        -- leaf 1 at 26
        have e : pgk U p = k := pgk_u u i0 i1 (fun w => by omega)
        rw [e] at hx
        exact hx
      · show jT _ _ 20 _ _ _ _
        refine tl_iinc rfl rfl rfl ?_
        refine tl_goto (tgt := 2) rfl rfl ?_
        show jT _ _ 2 _ _ _ _
        -- leaf 2 at 2
        refine ih (k + 1) (by omega) ⟨by omega, fun i hi => ?_⟩
        by_cases c : i = k
        · subst c; omega
        · exact i1 i (by omega)
set_option maxRecDepth 20000 in
set_option maxHeartbeats 1000000 in
theorem r_rp_B (l : Launch) (h U : jH) (fr p : Int) (u : UI fr U) (p7 : 0 ≤ p ∧ p ≤ 7) (hn : h 388 51 = pgn fr p U) (hl : h 388 48 = pg1 fr p U 1 1) (hm : h 388 49 = U 1 2) (ho : ∀ i : Nat, (i : Int) < U 1 0 → h 416 i = U 0 i) (kx : Int) (P : Option Value → jH → Prop) (hP : ∀ mem, (PGR mem (pg1 fr p U) ∧ (∀ x, x ≠ 388 → x ≠ 416 → mem x = h x) ∧ ∀ q, q ≠ 49 → mem 388 q = h 388 q) → P none mem) : ∀ (m : Nat) (i : Nat) (mem : jH), (pgn fr p U).toNat - i < m → ((pgs fr p U ≤ i ∧ (i : Int) + 1 ≤ pgn fr p U) ∧ (∀ q, q < i → mem 416 q = pg1 fr p U 0 q) ∧ (∀ q : Nat, i ≤ q → (q : Int) < U 1 0 → mem 416 q = U 0 q) ∧ ∀ x, x ≠ 416 → mem x = h x) → jT l 298 74 [some (.ref 388), some (.int (jI (p))), some (.int (jI (kx))), some (.int (jI ((i : Int))))] [] mem P := by
  have u1 := u.1
  have u2 := u.2.1
  have u3 := u.2.2.1
  have c9 := pg_c u p
  have s9 := pgk_s u p
  have la := pg_last u p
  intro m
  induction m with
  | zero => intro i mem hk; omega
  | succ m ih =>
    intro i mem hk hi
    obtain ⟨i0, i1, i2, fr9⟩ := hi
    have kf : pgn fr p U ≤ (i : Int) + 1 ∨ ((i : Int) + 1 < pgn fr p U ∧ mem 416 (i + 1) = U 0 (i + 1)) := by
      by_cases c : (i : Int) + 1 < pgn fr p U
      · exact Or.inr ⟨c, i2 (i + 1) (by omega) (by omega)⟩
      · exact Or.inl (by omega)
    refine tl_iload_n rfl rfl ?_
    refine tl_aload_n rfl rfl ?_
    refine tl_geti (c := 12) (k9 := 51) rfl rfl rfl ?_
    rw [fr9 388 (by decide), hn]
    refine tl_iconst rfl ?_
    refine tl_isub rfl ?_
    refine tl_icmp_ge (tgt := 104) rfl rfl ⟨by omega, by omega⟩ ⟨by omega, by omega⟩ (fun c1 => ?_) (fun c1 => ?_)
    · skip
      show jT _ _ 104 _ _ _ _
      refine tl_aload_n rfl rfl ?_
      refine tl_getr (c := 12) (k9 := 50) (b := 416) rfl rfl rfl rfl ?_
      refine tl_aload_n rfl rfl ?_
      refine tl_geti (c := 12) (k9 := 51) rfl rfl rfl ?_
      rw [fr9 388 (by decide), hn]
      refine tl_iconst rfl ?_
      refine tl_isub rfl ?_
      refine tl_iload_n rfl rfl ?_
      show jT _ _ 115 _ _ _ _
      refine tl_iast (n := 8) rfl rfl rfl (by omega) (by omega) ?_
      rw [show (pgn fr p U - 1).toNat = i by omega]
      refine tl_aload_n rfl rfl ?_
      refine tl_aload_n rfl rfl ?_
      refine tl_geti (c := 12) (k9 := 51) rfl rfl rfl ?_
      rw [hs_o (by decide), fr9 388 (by decide), hn]
      refine tl_aload_n rfl rfl ?_
      refine tl_geti (c := 12) (k9 := 49) rfl rfl rfl ?_
      rw [hs_o (by decide), fr9 388 (by decide), hm]
      refine tl_icmp_le (tgt := 135) rfl rfl ⟨by omega, by omega⟩ ⟨by omega, by omega⟩ (fun c2 => ?_) (fun c2 => ?_)
      · skip
        show jT _ _ 135 _ _ _ _
        refine tl_aload_n rfl rfl ?_
        refine tl_geti (c := 12) (k9 := 49) rfl rfl rfl ?_
        rw [hs_o (by decide), fr9 388 (by decide), hm]
        refine tl_puti (c := 12) (k9 := 49) rfl rfl rfl rfl ?_
        refine tl_ret rfl ?_
        -- leaf 0 at 142
        refine hP _ ⟨⟨?_, ?_, ?_, fun q hq => ?_⟩, fun x x1 x2 => by rw [hs_O x1, hs_O x2]; exact fr9 x x2, fun q hq => by rw [hs_k hq, hs_o (by decide), fr9 388 (by decide)]⟩
        · rw [hs_k (by decide), hs_o (by decide), fr9 388 (by decide), pg1_n]; exact hn
        · rw [hs_k (by decide), hs_o (by decide), fr9 388 (by decide)]; exact hl
        · rw [hs_s, pg1_m]; omega
        · rw [pg1_n] at hq
          rw [hs_o (by decide)]
          by_cases c : q = i
          · subst c; rw [hs_s]; have := la.2.2; rw [show (pgn fr p U - 1).toNat = q by omega] at this; exact this.symm
          · rw [hs_k c]; exact i1 q (by omega)
      · show jT _ _ 128 _ _ _ _
        refine tl_aload_n rfl rfl ?_
        refine tl_geti (c := 12) (k9 := 51) rfl rfl rfl ?_
        rw [hs_o (by decide), fr9 388 (by decide), hn]
        refine tl_goto (tgt := 139) rfl rfl ?_
        show jT _ _ 139 _ _ _ _
        refine tl_puti (c := 12) (k9 := 49) rfl rfl rfl rfl ?_
        refine tl_ret rfl ?_
        -- leaf 1 at 142
        refine hP _ ⟨⟨?_, ?_, ?_, fun q hq => ?_⟩, fun x x1 x2 => by rw [hs_O x1, hs_O x2]; exact fr9 x x2, fun q hq => by rw [hs_k hq, hs_o (by decide), fr9 388 (by decide)]⟩
        · rw [hs_k (by decide), hs_o (by decide), fr9 388 (by decide), pg1_n]; exact hn
        · rw [hs_k (by decide), hs_o (by decide), fr9 388 (by decide)]; exact hl
        · rw [hs_s, pg1_m]; omega
        · rw [pg1_n] at hq
          rw [hs_o (by decide)]
          by_cases c : q = i
          · subst c; rw [hs_s]; have := la.2.2; rw [show (pgn fr p U - 1).toNat = q by omega] at this; exact this.symm
          · rw [hs_k c]; exact i1 q (by omega)
    · show jT _ _ 84 _ _ _ _
      refine tl_aload_n rfl rfl ?_
      refine tl_getr (c := 12) (k9 := 50) (b := 416) rfl rfl rfl rfl ?_
      refine tl_iload_n rfl rfl ?_
      refine tl_aload_n rfl rfl ?_
      refine tl_getr (c := 12) (k9 := 50) (b := 416) rfl rfl rfl rfl ?_
      show jT _ _ 93 _ _ _ _
      refine tl_iload_n rfl rfl ?_
      refine tl_iconst rfl ?_
      refine tl_iadd rfl ?_
      refine tl_iald (n := 8) rfl rfl rfl (by omega) (by omega) ?_
      rw [show ((i : Int) + 1).toNat = i + 1 by omega, show mem 416 (i + 1) = U 0 (i + 1) by omega]
      refine tl_iast (n := 8) rfl rfl rfl (by omega) (by omega) ?_
      rw [Int.toNat_natCast]
      refine tl_iinc rfl rfl rfl ?_
      refine tl_goto (tgt := 74) rfl rfl ?_
      show jT _ _ 74 _ _ _ _
      -- leaf 2 at 74
      refine ih (i + 1) _ (by omega) ⟨⟨by omega, by omega⟩, fun q hq => ?_, fun q q1 q2 => by rw [hs_k (by omega)]; exact i2 q (by omega) q2, fun x hx9 => by rw [hs_O hx9]; exact fr9 x hx9⟩
      by_cases c : q = i
      · subst c; rw [hs_s, pg1_0, if_neg (by omega), if_pos (by omega)]
      · rw [hs_k c]; exact i1 q (by omega)
set_option maxRecDepth 20000 in
set_option maxHeartbeats 1000000 in
theorem r_read (l : Launch) (h U : jH) (fr p : Int) (u : UI fr U) (p7 : 0 ≤ p ∧ p ≤ 7) (k9 : PGR h U) (e4 : h 390 4 = fr) (lb : 0 ≤ U 1 1 ∧ U 1 1 ≤ 1000) : cV l 298 [.ref 388, .int (jI p)] h (fun h' => PGR h' (pg1 fr p U) ∧ (∀ x, x ≠ 388 → x ≠ 416 → h' x = h x) ∧ ∀ q, q ≠ 48 → q ≠ 49 → q ≠ 51 → h' 388 q = h 388 q) := by
  have u1 := u.1
  have u2 := u.2.1
  have u3 := u.2.2.1
  have c9 := pg_c u p
  have s9 := (pgk_s u p).1
  refine cV.of rfl rfl ?_
  refine tl_iconst rfl ?_
  refine tl_istore_n rfl (Nat.le_of_ble_eq_true rfl) rfl ?_
  show jT _ _ 2 _ _ _ _
  -- leaf 0 at 2
  refine r_rp_A l h U fr p u p7 k9 e4 lb _ ?_ _ 0 (Nat.lt_succ_self _) ⟨by omega, fun i hi => absurd hi (by omega)⟩
  refine tl_iload_n rfl rfl ?_
  refine tl_aload_n rfl rfl ?_
  refine tl_geti (c := 12) (k9 := 51) rfl rfl rfl ?_
  rw [k9.1]
  refine tl_icmp_ne (tgt := 72) rfl rfl ⟨by omega, by omega⟩ ⟨by omega, by omega⟩ (fun c1 => ?_) (fun c1 => ?_)
  · skip
    refine tl_iload_n rfl rfl ?_
    refine tl_istore_n rfl (Nat.le_of_ble_eq_true rfl) rfl ?_
    show jT _ _ 74 _ _ _ _
    -- leaf 0 at 74
    exact jT.loc (by rfl) (r_rp_B l _ U fr p u p7 (by rw [k9.1]; omega) (by rw [k9.2.1, pg1_l, if_neg (by omega)]) (by exact k9.2.2.1) (by exact k9.2.2.2) (pgk U p : Int) _ (fun mem hz => ⟨rfl, hz.1, fun x x1 x2 => by exact hz.2.1 x x1 x2, fun q q1 q2 q3 => by exact hz.2.2 q q2⟩) _ (pgk U p) _ (Nat.lt_succ_self _) ⟨⟨by omega, by omega⟩, fun q hq => by rw [pg1_0, if_pos (by omega)]; exact k9.2.2.2 q (by omega), fun q _ hq => by exact k9.2.2.2 q hq, fun _ _ => rfl⟩)
  · show jT _ _ 34 _ _ _ _
    show jT _ _ 34 _ _ _ _
    refine tl_aload_n rfl rfl ?_
    refine tl_dup rfl rfl ?_
    refine tl_geti (c := 12) (k9 := 48) rfl rfl rfl ?_
    rw [k9.2.1]
    refine tl_iconst rfl ?_
    refine tl_iadd rfl ?_
    refine tl_puti (c := 12) (k9 := 48) rfl rfl rfl rfl ?_
    refine tl_aload_n rfl rfl ?_
    show jT _ _ 45 _ _ _ _
    refine tl_geti (c := 12) (k9 := 51) rfl rfl rfl ?_
    rw [hs_k (by decide), k9.1]
    refine tl_aload_n rfl rfl ?_
    refine tl_getr (c := 12) (k9 := 3) (b := 390) rfl rfl rfl rfl ?_
    refine tl_iconst rfl ?_
    refine tl_iald (n := 1362) rfl rfl rfl (by omega) (by omega) ?_
    rw [show Int.toNat 4 = 4 from rfl]
    rw [hs_o (by decide), e4]
    refine tl_icmp_ne (tgt := 62) rfl rfl ⟨by omega, by omega⟩ ⟨by omega, by omega⟩ (fun c2 => ?_) (fun c2 => ?_)
    · skip
      refine tl_aload_n rfl rfl ?_
      show jT _ _ 63 _ _ _ _
      refine tl_dup rfl rfl ?_
      refine tl_geti (c := 12) (k9 := 51) rfl rfl rfl ?_
      rw [hs_k (by decide), k9.1]
      refine tl_iconst rfl ?_
      refine tl_iadd rfl ?_
      refine tl_puti (c := 12) (k9 := 51) rfl rfl rfl rfl ?_
      refine tl_iload_n rfl rfl ?_
      refine tl_istore_n rfl (Nat.le_of_ble_eq_true rfl) rfl ?_
      show jT _ _ 74 _ _ _ _
      -- leaf 1 at 74
      exact jT.loc (by rfl) (r_rp_B l _ U fr p u p7 (by rw [hs_s]; omega) (by rw [hs_k (by decide), hs_s, pg1_l, if_pos (by omega)]) (by rw [hs_k (by decide), hs_k (by decide)]; exact k9.2.2.1) (fun i hi => by rw [hs_o (by decide), hs_o (by decide)]; exact k9.2.2.2 i hi) (pgk U p : Int) _ (fun mem hz => ⟨rfl, hz.1, fun x x1 x2 => by rw [hz.2.1 x x1 x2, hs_O x1, hs_O x1], fun q q1 q2 q3 => by rw [hz.2.2 q q2, hs_k q3, hs_k q1]⟩) _ (pgk U p) _ (Nat.lt_succ_self _) ⟨⟨by omega, by omega⟩, fun q hq => by rw [hs_o (by decide), hs_o (by decide), pg1_0, if_pos (by omega)]; exact k9.2.2.2 q (by omega), fun q _ hq => by rw [hs_o (by decide), hs_o (by decide)]; exact k9.2.2.2 q hq, fun _ _ => rfl⟩)
    · show jT _ _ 57 _ _ _ _
      show jT _ _ 57 _ _ _ _
      refine tl_iconst rfl ?_
      refine tl_istore_n rfl (Nat.le_of_ble_eq_true rfl) rfl ?_
      refine tl_goto (tgt := 72) rfl rfl ?_
      refine tl_iload_n rfl rfl ?_
      refine tl_istore_n rfl (Nat.le_of_ble_eq_true rfl) rfl ?_
      show jT _ _ 74 _ _ _ _
      -- leaf 2 at 74
      exact jT.loc (by rfl) (r_rp_B l _ U fr p u p7 (by rw [hs_k (by decide), k9.1]; omega) (by rw [hs_s, pg1_l, if_pos (by omega)]) (by rw [hs_k (by decide)]; exact k9.2.2.1) (fun i hi => by rw [hs_o (by decide)]; exact k9.2.2.2 i hi) 0 _ (fun mem hz => ⟨rfl, hz.1, fun x x1 x2 => by rw [hz.2.1 x x1 x2, hs_O x1], fun q q1 q2 q3 => by rw [hz.2.2 q q2, hs_k q1]⟩) _ 0 _ (Nat.lt_succ_self _) ⟨⟨by omega, by omega⟩, fun q hq => by omega, fun q _ hq => by rw [hs_o (by decide)]; exact k9.2.2.2 q hq, fun _ _ => rfl⟩)
set_option maxRecDepth 20000 in
set_option maxHeartbeats 1000000 in
theorem r_ap_A (l : Launch) (h g : jH) (N : Nat) (fr : Int) (f1 : 1 ≤ fr ∧ fr ≤ 6) (hg : OGR h g N) (hv : OGv g N) (e4 : h 390 4 = fr) (ka : Int) (P : Option Value → jH → Prop) (hx : ∀ mem, (PGR mem (pgT g fr N (2 * N)) ∧ (∀ x, x ≠ 388 → x ≠ 416 → mem x = h x) ∧ ∀ q, q ≠ 48 → q ≠ 49 → q ≠ 51 → mem 388 q = h 388 q) → jT l 299 129 [some (.ref 388), some (.int (jI (ka))), some (.int (jI (((2 * N : Nat) : Int))))] [] mem P) : ∀ (m : Nat) (i : Nat) (mem : jH), 2 * N - i < m → (i ≤ 2 * N ∧ PGR mem (pgT g fr N i) ∧ (∀ x, x ≠ 388 → x ≠ 416 → mem x = h x) ∧ ∀ q, q ≠ 48 → q ≠ 49 → q ≠ 51 → mem 388 q = h 388 q) → jT l 299 80 [some (.ref 388), some (.int (jI (ka))), some (.int (jI ((i : Int))))] [] mem P := by
  have n64 := hv.1
  intro m
  induction m with
  | zero => intro i mem hk; omega
  | succ m ih =>
    intro i mem hk hi
    obtain ⟨i0, k9, fr9⟩ := hi
    have e25 : mem 388 25 = (N : Int) := by rw [fr9.2 25 (by decide) (by decide) (by decide)]; exact hg.1
    have kf : 2 * N ≤ i ∨ (i < 2 * N ∧ i % N < N ∧ mem 403 (i % N) = g 0 (i % N) ∧ -1 ≤ g 0 (i % N) ∧ g 0 (i % N) ≤ 63 ∧ UI fr (pgT g fr N i) ∧ 0 ≤ pgT g fr N i 1 1 ∧ pgT g fr N i 1 1 ≤ (i : Int)) := by
      by_cases c : i < 2 * N
      · have n0 : 0 < N := by omega
        have d := Nat.mod_lt i n0
        have a := (hv.2 (i % N) d).1
        have b := pgT_I (g := g) (fr := fr) (N := N) f1 hv n0 i
        exact Or.inr ⟨c, d, by rw [fr9.1 403 (by decide) (by decide)]; exact (hg.2 _ d).1, a.1, a.2, b.1, b.2.1, b.2.2⟩
      · exact Or.inl (by omega)
    have em : (i : Int) % (N : Int) = ((i % N : Nat) : Int) := (Int.natCast_emod i N).symm
    refine tl_iload_n rfl rfl ?_
    refine tl_iconst rfl ?_
    refine tl_aload_n rfl rfl ?_
    refine tl_geti (c := 12) (k9 := 25) rfl rfl rfl ?_
    rw [e25]
    refine tl_imul rfl ?_
    refine tl_icmp_ge (tgt := 129) rfl rfl ⟨by omega, by omega⟩ ⟨by omega, by omega⟩ (fun c1 => ?_) (fun c1 => ?_)
    · skip
      show jT _ _ 129 _ _ _ _
      -- leaf 0 at 129
      have e : i = 2 * N := by omega
      subst e
      exact hx mem ⟨k9, fr9⟩
    · show jT _ _ 90 _ _ _ _
      show jT _ _ 90 _ _ _ _
      refine tl_aload_n rfl rfl ?_
      refine tl_getr (c := 12) (k9 := 23) (b := 403) rfl rfl rfl rfl ?_
      refine tl_iload_n rfl rfl ?_
      refine tl_aload_n rfl rfl ?_
      refine tl_geti (c := 12) (k9 := 25) rfl rfl rfl ?_
      rw [e25]
      refine tl_irem rfl (by omega) (by omega) (by omega) (by omega) ?_
      rw [em]
      refine tl_iald (n := 64) rfl rfl rfl (by omega) (by omega) ?_
      rw [Int.toNat_natCast, show mem 403 (i % N) = g 0 (i % N) by omega]
      show jT _ _ 101 _ _ _ _
      refine tl_iconst rfl ?_
      refine tl_icmp_eq (tgt := 123) rfl rfl ⟨by omega, by omega⟩ ⟨by omega, by omega⟩ (fun c2 => ?_) (fun c2 => ?_)
      · skip
        refine tl_iinc rfl rfl rfl ?_
        refine tl_goto (tgt := 80) rfl rfl ?_
        show jT _ _ 80 _ _ _ _
        -- leaf 1 at 80
        have e : pgT g fr N (i + 1) = pgT g fr N i := pgT_n (by omega)
        exact ih (i + 1) mem (by omega) ⟨by omega, by rw [e]; exact k9, fr9⟩
      · show jT _ _ 105 _ _ _ _
        refine tl_aload_n rfl rfl ?_
        refine tl_aload_n rfl rfl ?_
        refine tl_getr (c := 12) (k9 := 23) (b := 403) rfl rfl rfl rfl ?_
        show jT _ _ 110 _ _ _ _
        refine tl_iload_n rfl rfl ?_
        refine tl_aload_n rfl rfl ?_
        refine tl_geti (c := 12) (k9 := 25) rfl rfl rfl ?_
        rw [e25]
        refine tl_irem rfl (by omega) (by omega) (by omega) (by omega) ?_
        rw [em]
        refine tl_iald (n := 64) rfl rfl rfl (by omega) (by omega) ?_
        rw [Int.toNat_natCast, show mem 403 (i % N) = g 0 (i % N) by omega]
        refine tl_bipush rfl rfl ?_
        refine tl_idiv rfl (by omega) (by omega) (by omega) (by omega) ?_
        show jT _ _ 120 _ _ _ _
        refine tl_v1v (c9 := 12) (r_read l mem (pgT g fr N i) fr (g 0 (i % N) / 8) (by rcases kf with kf | kf; (exfalso; omega); exact kf.2.2.2.2.2.1) (by omega) k9 (by rw [fr9.1 390 (by decide) (by decide)]; exact e4) (by omega)) rfl rfl rfl rfl rfl (Nat.le_of_ble_eq_true rfl) (fun h2 p2 => ?_)
        obtain ⟨k2, f2⟩ := p2
        refine tl_iinc rfl rfl rfl ?_
        refine tl_goto (tgt := 80) rfl rfl ?_
        show jT _ _ 80 _ _ _ _
        -- leaf 2 at 80
        have e : pgT g fr N (i + 1) = pg1 fr (g 0 (i % N) / 8) (pgT g fr N i) := pgT_y (by omega)
        exact ih (i + 1) h2 (by omega) ⟨by omega, by rw [e]; exact k2, fun x x1 x2 => by rw [f2.1 x x1 x2]; exact fr9.1 x x1 x2, fun q q1 q2 q3 => by rw [f2.2 q q1 q2 q3]; exact fr9.2 q q1 q2 q3⟩
set_option maxRecDepth 20000 in
set_option maxHeartbeats 1000000 in
theorem r_ap_B (l : Launch) (h : jH) (L : List Int) (l64 : L.length ≤ 64) (hn : h 388 25 = (L.length : Int)) (hc : ∀ i, i < L.length → h 413 i = L.getD i 0) (ka : Int) (P : Option Value → jH → Prop) (hx : ∀ mem, ((∀ i, i < L.length → mem 390 (136 + i) = L.getD i 0) ∧ (∀ i, (i < 136 ∨ 136 + L.length ≤ i) → mem 390 i = h 390 i) ∧ ∀ x, x ≠ 390 → mem x = h x) → jT l 299 177 [some (.ref 388), some (.int (jI (ka))), some (.int (jI ((L.length : Int))))] [] mem P) : ∀ (m : Nat) (i : Nat) (mem : jH), L.length - i < m → (i ≤ L.length ∧ (∀ q, q < i → mem 390 (136 + q) = L.getD q 0) ∧ (∀ q, (q < 136 ∨ 136 + i ≤ q) → mem 390 q = h 390 q) ∧ ∀ x, x ≠ 390 → mem x = h x) → jT l 299 144 [some (.ref 388), some (.int (jI (ka))), some (.int (jI ((i : Int))))] [] mem P := by
  intro m
  induction m with
  | zero => intro i mem hk; omega
  | succ m ih =>
    intro i mem hk hi
    obtain ⟨i0, i1, i2, fr9⟩ := hi
    refine tl_iload_n rfl rfl ?_
    refine tl_aload_n rfl rfl ?_
    refine tl_geti (c := 12) (k9 := 25) rfl rfl rfl ?_
    rw [fr9 388 (by decide), hn]
    refine tl_icmp_ge (tgt := 177) rfl rfl ⟨by omega, by omega⟩ ⟨by omega, by omega⟩ (fun c1 => ?_) (fun c1 => ?_)
    · skip
      show jT _ _ 177 _ _ _ _
      -- leaf 0 at 177
      have e : i = L.length := by omega
      subst e
      exact hx mem ⟨i1, i2, fr9⟩
    · show jT _ _ 152 _ _ _ _
      refine tl_aload_n rfl rfl ?_
      refine tl_getr (c := 12) (k9 := 3) (b := 390) rfl rfl rfl rfl ?_
      show jT _ _ 156 _ _ _ _
      refine tl_iconst rfl ?_
      refine tl_s1i (c_fileAt l _ 2) rfl rfl rfl (Nat.le_of_ble_eq_true rfl) (fun z1 h1 p1 => ?_)
      obtain ⟨q1, rfl⟩ := p1
      have q1 := q1.symm
      subst q1
      refine tl_iconst rfl ?_
      refine tl_iadd rfl ?_
      refine tl_iload_n rfl rfl ?_
      refine tl_iadd rfl ?_
      refine tl_aload_n rfl rfl ?_
      show jT _ _ 165 _ _ _ _
      refine tl_getr (c := 12) (k9 := 44) (b := 413) rfl rfl rfl rfl ?_
      refine tl_iload_n rfl rfl ?_
      refine tl_iald (n := 64) rfl rfl rfl (by omega) (by omega) ?_
      rw [Int.toNat_natCast, fr9 413 (by decide), hc i (by omega)]
      refine tl_iast (n := 1362) rfl rfl rfl (by omega) (by omega) ?_
      rw [show ((5 : Int) + 65 * 2 + 1 + (i : Int)).toNat = 136 + i by omega]
      refine tl_iinc rfl rfl rfl ?_
      refine tl_goto (tgt := 144) rfl rfl ?_
      show jT _ _ 144 _ _ _ _
      -- leaf 1 at 144
      refine ih (i + 1) _ (by omega) ⟨by omega, fun q hq => ?_, fun q hq => by rw [hs_k (by omega)]; exact i2 q (by omega), fun x hx9 => by rw [hs_O hx9]; exact fr9 x hx9⟩
      by_cases c : q = i
      · subst c; rw [hs_s]
      · rw [hs_k (by omega)]; exact i1 q (by omega)
set_option maxRecDepth 20000 in
set_option maxHeartbeats 4000000 in
theorem r_apply (l : Launch) (g h : jH) (t k : Int) (hI0 : IC g h t) (hk : jr k) : cI l 299 [.ref 388, .int (jI k)] h (PRF (Dapply (Tz h) k)) := by
  have k1 := hk.1
  have k2 := hk.2
  refine cI.of rfl rfl ?_
  refine tl_aload_n rfl rfl ?_
  refine tl_iconst rfl ?_
  refine tl_puti (c := 12) (k9 := 0) rfl rfl rfl rfl ?_
  have hI := hI0.z
  change jT _ _ _ _ _ (Tz h) _
  generalize Tz h = m at hI ⊢
  refine tl_iload_n rfl rfl ?_
  refine tl_s1i (c_isSlotR l _ k ⟨by omega, by omega⟩) rfl rfl rfl (Nat.le_of_ble_eq_true rfl) (fun zs1 hs1 ps1 => ?_)
  obtain ⟨qs1, ps1⟩ := ps1
  have qs1 := qs1.symm
  subst qs1
  have bs1 : zs1 = 0 ∧ (k < 0 ∨ 2 < k) ∨ zs1 = 1 ∧ 0 ≤ k ∧ k ≤ 2 := by rw [ps1]; split <;> omega
  refine tl_if_ne (tgt := 18) rfl rfl ⟨by omega, by omega⟩ (fun c1 => ?_) (fun c1 => ?_)
  · skip
    show jT _ _ 18 _ _ _ _
    refine tl_aload_n rfl rfl ?_
    refine tl_iload_n rfl rfl ?_
    refine tl_v1i (c9 := 12) (c_has l _ k (by omega) (by omega) (by have a := (hI.sok k (by omega) (by omega)).1; exact ⟨by omega, by omega⟩)) rfl rfl rfl rfl rfl (Nat.le_of_ble_eq_true rfl) (fun zh1 hh1 ph1 => ?_)
    obtain ⟨qh1, ph1⟩ := ph1
    have qh1 := qh1.symm
    subst qh1
    have bh1 : zh1 = 0 ∧ m 390 (200 + 301 * k).toNat = -1 ∨ zh1 = 1 ∧ m 390 (200 + 301 * k).toNat ≠ -1 := by rw [ph1]; split <;> omega
    refine tl_if_ne (tgt := 33) rfl rfl ⟨by omega, by omega⟩ (fun c2 => ?_) (fun c2 => ?_)
    · skip
      have sb1 := hI.sok.b (k := k) (by omega) (by omega) (by omega)
      refine tl_aload_n rfl rfl ?_
      refine tl_aload_n rfl rfl ?_
      refine tl_iload_n rfl rfl ?_
      show jT _ _ 36 _ _ _ _
      refine tl_iconst rfl ?_
      refine tl_v2i (c9 := 12) (r_readSlot l m (m 390) rfl hI.ok hI.sok k (by omega) (by omega) (by omega) true) rfl rfl rfl rfl rfl (Nat.le_of_ble_eq_true rfl) (fun z1 h1 p1 => ?_)
      obtain ⟨e1, g1, f1⟩ := p1
      have rb1 := rdF_b (slL (m 390) k) true (m 390)
      subst e1
      refine tl_puti (c := 12) (k9 := 45) rfl rfl rfl rfl ?_
      refine tl_aload_n rfl rfl ?_
      refine tl_geti (c := 12) (k9 := 45) rfl rfl rfl ?_
      rw [hs_s]
      refine tl_if_eq (tgt := 57) rfl rfl ⟨by omega, by omega⟩ (fun c3 => ?_) (fun c3 => ?_)
      · skip
        show jT _ _ 57 _ _ _ _
        -- leaf 0 at 57
        have z1 : (rdF (slL (m 390) k) true (m 390)) = 0 := by omega
        have rf9 : RF (lat m (rdF (slL (m 390) k) true (m 390))) (hs h1 388 45 (rdF (slL (m 390) k) true (m 390))) := RFlatI (fun x hx => by rw [hs_O (by omega), f1.1 x (by omega) (by omega)]) (fun q hq => by rw [hs_k (by omega), f1.2 q (by omega) (by omega) (by omega)]) hs_s
        rw [z1] at rf9
        have G1 := g1 z1
        have A := rdA sb1.1 sb1.2.2.2 z1
        have An := A.2.2.1
        have Af := A.2.2.2.2.2.2 rfl
        have Av := A.2.2.2.2.1
        have te2 : 1 ≤ m 390 4 ∧ m 390 4 ≤ 6 := (hI.2.2.2.1 4 (by decide)).2
        have nu := hI.nund
        have cl : (apC (m 390) k).length = (rNs (slL (m 390) k)).toNat := coL_len _
        refine tl_aload_n rfl rfl ?_
        refine tl_bipush rfl rfl ?_
        refine tl_v1v (c9 := 12) (r_remember l _ 11 (by rw [hs_k (by decide), f1.2 6 (by decide) (by decide) (by decide)]; exact nu.1) (by rw [hs_k (by decide), f1.2 6 (by decide) (by decide) (by decide)]; exact nu.2)) rfl rfl rfl rfl rfl (Nat.le_of_ble_eq_true rfl) (fun h2 p2 => ?_)
        have xr := rf9.rem 11
        rw [z1] at p2
        have y25 : h2 388 25 = ((rNs (slL (m 390) k)).toNat : Int) := by rw [p2, Trem_n (by decide), hs_k (by decide)]; exact G1.1.2.2.1.1
        have y3 : ∀ x, x ≠ 388 → x ≠ 391 → x ≠ 392 → h2 x = h1 x := fun x x1 x2 x3 => by rw [p2, Trem_o x1 x2 x3, hs_O x1]
        rw [← p2] at xr
        clear p2
        have y390 : h2 390 = m 390 := by rw [y3 390 (by decide) (by decide) (by decide)]; exact f1.1 390 (by decide) (by omega)
        refine tl_aload_n rfl rfl ?_
        refine tl_iconst rfl ?_
        refine tl_puti (c := 12) (k9 := 48) rfl rfl rfl rfl ?_
        show jT _ _ 68 _ _ _ _
        refine tl_aload_n rfl rfl ?_
        refine tl_iconst rfl ?_
        refine tl_puti (c := 12) (k9 := 49) rfl rfl rfl rfl ?_
        refine tl_aload_n rfl rfl ?_
        refine tl_iconst rfl ?_
        refine tl_puti (c := 12) (k9 := 51) rfl rfl rfl rfl ?_
        refine tl_iconst rfl ?_
        show jT _ _ 79 _ _ _ _
        refine tl_istore_n rfl (Nat.le_of_ble_eq_true rfl) rfl ?_
        show jT _ _ 80 _ _ _ _
        -- leaf 0 at 80
        refine r_ap_A l _ (rG (slL (m 390) k)) (rNs (slL (m 390) k)).toNat (m 390 4) te2 ⟨by rw [hs_k (by decide), hs_k (by decide), hs_k (by decide)]; exact y25, fun i hi => by rw [hs_o (by decide), hs_o (by decide), hs_o (by decide), hs_o (by decide), hs_o (by decide), hs_o (by decide), y3 403 (by decide) (by decide) (by decide), y3 404 (by decide) (by decide) (by decide)]; exact G1.1.2.2.1.2 i hi⟩ Av (by rw [hs_o (by decide), hs_o (by decide), hs_o (by decide), y390]) k _ (fun h3 p3 => ?_) _ 0 _ (Nat.lt_succ_self _) ⟨Nat.zero_le _, ⟨?_, ?_, ?_, fun i hi => absurd hi (by show ¬ (i : Int) < 0; omega)⟩, fun _ _ _ => rfl, fun _ _ _ _ => rfl⟩
        rotate_left
        · rw [hs_s]; rfl
        · rw [hs_k (by decide), hs_k (by decide), hs_s]; rfl
        · rw [hs_k (by decide), hs_s]; rfl
        obtain ⟨k3, f3⟩ := p3
        have w3 : ∀ x, x ≠ 388 → x ≠ 416 → h3 x = h2 x := fun x x1 x2 => by rw [f3.1 x x1 x2, hs_O x1, hs_O x1, hs_O x1]
        have w8 : ∀ q, q ≠ 48 → q ≠ 49 → q ≠ 51 → h3 388 q = h2 388 q := fun q a b c => by rw [f3.2 q a b c, hs_k c, hs_k b, hs_k a]
        refine tl_aload_n rfl rfl ?_
        refine tl_getr (c := 12) (k9 := 3) (b := 390) rfl rfl rfl rfl ?_
        refine tl_iconst rfl ?_
        refine tl_s1i (c_fileAt l _ 2) rfl rfl rfl (Nat.le_of_ble_eq_true rfl) (fun z4 h4 p4 => ?_)
        obtain ⟨q4, rfl⟩ := p4
        have q4 := q4.symm
        subst q4
        refine tl_aload_n rfl rfl ?_
        refine tl_geti (c := 12) (k9 := 25) rfl rfl rfl ?_
        rw [w8 25 (by decide) (by decide) (by decide), y25, ← cl]
        show jT _ _ 141 _ _ _ _
        refine tl_iast (n := 1362) rfl rfl rfl (by omega) (by omega) ?_
        rw [show ((5 : Int) + 65 * 2).toNat = 135 from rfl]
        refine tl_iconst rfl ?_
        refine tl_istore_n rfl (Nat.le_of_ble_eq_true rfl) rfl ?_
        show jT _ _ 144 _ _ _ _
        -- leaf 0 at 144
        refine r_ap_B l (hs h3 390 135 ((apC (m 390) k).length : Int)) (apC (m 390) k) (by omega) (by rw [hs_o (by decide), w8 25 (by decide) (by decide) (by decide), y25, cl]) (fun i hi => ?_) k _ (fun h5 p5 => ?_) _ 0 _ (Nat.lt_succ_self _) ⟨Nat.zero_le _, fun q hq => absurd hq (by omega), fun _ _ => rfl, fun _ _ => rfl⟩
        · rw [hs_o (by decide), w3 413 (by decide) (by decide), y3 413 (by decide) (by decide) (by decide), G1.2 rfl i (by omega)]; exact (coL_gd _ i (by omega)).symm
        · obtain ⟨b1, b2, b3⟩ := p5
          refine tl_aload_n rfl rfl ?_
          refine tl_aload_n rfl rfl ?_
          refine tl_geti (c := 12) (k9 := 25) rfl rfl rfl ?_
          rw [b3 388 (by decide), hs_o (by decide), w8 25 (by decide) (by decide) (by decide), y25, show ((rNs (slL (m 390) k)).toNat : Int) = rNs (slL (m 390) k) by omega]
          refine tl_v1i (c9 := 12) (c_tell l _ _ ⟨by omega, by omega⟩ (by omega)) rfl rfl rfl rfl rfl (Nat.le_of_ble_eq_true rfl) (fun zt ht pt => ?_)
          obtain ⟨rfl, pt⟩ := pt
          refine tl_iret rfl ?_
          -- leaf 0 at 185
          refine ⟨_, rfl, ?_⟩
          rw [Dapply]
          repeat (first | rw [if_pos (by omega)] | rw [if_neg (by omega)])
          have rp : RF (Tpg (Tfil (Trem (lat m 0) 11) 135 (apC (m 390) k)) (apU (m 390) k 1 1) (apU (m 390) k 1 2)) h5 := RF.ap xr (fun x x1 x2 x3 => by rw [b3 x x2, hs_O x2]; exact w3 x x1 x3) (fun q a b c => by rw [b3 388 (by decide), hs_o (by decide)]; exact w8 q a b c) (by rw [b3 388 (by decide), hs_o (by decide)]; exact k3.2.1) (by rw [b3 388 (by decide), hs_o (by decide)]; exact k3.2.2.1) (by
            funext i
            unfold Rfil
            by_cases c : i = 135
            · subst c; rw [if_pos rfl, b2 135 (by omega), hs_s]
            · rw [if_neg c]
              by_cases d : 135 + 1 ≤ i ∧ i < 135 + 1 + (apC (m 390) k).length
              · rw [if_pos d]; have := b1 (i - 136) (by omega); rw [show 136 + (i - 136) = i by omega] at this; exact this
              · rw [if_neg d, b2 i (by omega), hs_k c, w3 390 (by decide) (by decide)])
          change ht = Ttell _ _ at pt
          refine ⟨rfl, ?_⟩
          rw [pt]
          exact RF.tell rp _ (by omega)
      · show jT _ _ 50 _ _ _ _
        refine tl_aload_n rfl rfl ?_
        show jT _ _ 51 _ _ _ _
        refine tl_bipush rfl rfl ?_
        refine tl_v1i (c9 := 12) (c_tell l _ _ ⟨by omega, by omega⟩ (by omega)) rfl rfl rfl rfl rfl (Nat.le_of_ble_eq_true rfl) (fun zt ht pt => ?_)
        obtain ⟨rfl, pt⟩ := pt
        refine tl_iret rfl ?_
        -- leaf 1 at 56
        refine ⟨_, rfl, ?_⟩
        rw [Dapply]
        repeat (first | rw [if_pos (by omega)] | rw [if_neg (by omega)])
        have rf9 : RF (lat m (rdF (slL (m 390) k) true (m 390))) (hs h1 388 45 (rdF (slL (m 390) k) true (m 390))) := RFlatI (fun x hx => by rw [hs_O (by omega), f1.1 x (by omega) (by omega)]) (fun q hq => by rw [hs_k (by omega), f1.2 q (by omega) (by omega) (by omega)]) hs_s
        change ht = Ttell _ _ at pt
        refine ⟨rfl, ?_⟩
        rw [pt]
        exact RF.tell rf9 _ (by decide)
    · show jT _ _ 26 _ _ _ _
      refine tl_aload_n rfl rfl ?_
      refine tl_bipush rfl rfl ?_
      refine tl_v1i (c9 := 12) (c_tell l _ _ ⟨by omega, by omega⟩ (by omega)) rfl rfl rfl rfl rfl (Nat.le_of_ble_eq_true rfl) (fun zt ht pt => ?_)
      obtain ⟨rfl, pt⟩ := pt
      refine tl_iret rfl ?_
      -- leaf 2 at 32
      refine ⟨_, rfl, ?_⟩
      rw [Dapply]
      repeat (first | rw [if_pos (by omega)] | rw [if_neg (by omega)])
      exact ⟨rfl, by rw [pt]; exact RF.rfl'⟩
  · show jT _ _ 12 _ _ _ _
    show jT _ _ 12 _ _ _ _
    refine tl_aload_n rfl rfl ?_
    refine tl_iconst rfl ?_
    refine tl_v1i (c9 := 12) (c_tell l _ _ ⟨by omega, by omega⟩ (by omega)) rfl rfl rfl rfl rfl (Nat.le_of_ble_eq_true rfl) (fun zt ht pt => ?_)
    obtain ⟨rfl, pt⟩ := pt
    refine tl_iret rfl ?_
    -- leaf 3 at 17
    refine ⟨_, rfl, ?_⟩
    rw [Dapply]
    repeat (first | rw [if_pos (by omega)] | rw [if_neg (by omega)])
    exact ⟨rfl, by rw [pt]; exact RF.rfl'⟩
