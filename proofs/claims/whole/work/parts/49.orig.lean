/-! layOrigins of the reference; anchor, origin -/
theorem tmod256 (v : Int) : (v.tmod 256 + 256) % 256 = v % 256 ∧ -256 < v.tmod 256 ∧ v.tmod 256 < 256 := by
  by_cases c : 0 ≤ v
  · rw [Int.tmod_eq_emod_of_nonneg c]; omega
  · have e : v.tmod 256 = -((-v).tmod 256) := by rw [Int.neg_tmod]; omega
    rw [e, Int.tmod_eq_emod_of_nonneg (show 0 ≤ -v by omega)]; omega
set_option maxRecDepth 20000 in
set_option maxHeartbeats 1000000 in
theorem r_byteIn (l : Launch) (h : jH) (v : Int) (hv : jr v) : cI l 253 [.int (jI v)] h (fun z h' => h' = h ∧ z = v % 256) := by
  have v1 := hv.1
  have v2 := hv.2
  have t := tmod256 v
  refine cI.of rfl rfl ?_
  refine tl_iload_n rfl rfl ?_
  refine tl_sipush rfl rfl ?_
  refine tl_iremT rfl ⟨by omega, by omega⟩ (by omega) (by omega) ?_
  refine tl_sipush rfl rfl ?_
  refine tl_iadd rfl ?_
  refine tl_sipush rfl rfl ?_
  show jT _ _ 12 _ _ _ _
  refine tl_irem rfl (by omega) (by omega) (by omega) (by omega) ?_
  refine tl_iret rfl ?_
  -- leaf 0 at 13
  exact ⟨_, rfl, rfl, t.1⟩
theorem pv_a {h : jH} {n i : Nat} {x v : Int} : hs (hs h 403 n x) 404 n v 403 i = if i = n then x else h 403 i := by
  rw [hs_o (by decide)]
  by_cases c : i = n
  · subst c; rw [hs_s, if_pos rfl]
  · rw [hs_k c, if_neg c]
theorem pv_b {h : jH} {n i : Nat} {x v : Int} : hs (hs h 403 n x) 404 n v 404 i = if i = n then v else h 404 i := by
  by_cases c : i = n
  · subst c; rw [hs_s, if_pos rfl]
  · rw [hs_k c, if_neg c, hs_o (by decide)]
set_option maxRecDepth 20000 in
set_option maxHeartbeats 1000000 in
theorem r_lo_A (l : Launch) (h : jH) (R : Nat → Int) (hR : h 390 = R) (ok : Rok R) (lst : Int) (T : jH) (n : Nat) (ti : TI R T n) (hn : h 388 22 = (n : Int)) (tk : ∀ r, r < 5 → ∀ i, i < n → h (398 + r) i = T r i) (P : Option Value → jH → Prop) (hx : ∀ mem, ((∀ i : Nat, (i : Int) < R 70 → mem 403 i = ogF R T 0 0 i ∧ mem 404 i = ogF R T 0 1 i) ∧ (mem 388 25 = R 70 ∧ (∀ x, x ≠ 388 → x ≠ 403 → x ≠ 404 → mem x = h x) ∧ ∀ q, q ≠ 25 → mem 388 q = h 388 q)) → jT l 254 49 [some (.ref 388), some (.int (jI (lst))), some (.int (jI (R 70))), none] [] mem P) : ∀ (m : Nat) (k : Nat) (mem : jH), (R 70).toNat - k < m → ((k : Int) ≤ R 70 ∧ (∀ i : Nat, i < k → mem 403 i = ogF R T 0 0 i ∧ mem 404 i = ogF R T 0 1 i) ∧ (mem 388 25 = R 70 ∧ (∀ x, x ≠ 388 → x ≠ 403 → x ≠ 404 → mem x = h x) ∧ ∀ q, q ≠ 25 → mem 388 q = h 388 q)) → jT l 254 16 [some (.ref 388), some (.int (jI (lst))), some (.int (jI ((k : Int)))), none] [] mem P := by
  have ok9 := ok
  obtain ⟨k1, k2, k3, k4, k5, k6, k7⟩ := ok9
  intro m
  induction m with
  | zero => intro k mem hk; omega
  | succ m ih =>
    intro k mem hk hi
    obtain ⟨i0, i2, fr0, fr, fr2⟩ := hi
    have e390 : mem 390 = R := by rw [fr 390 (by decide) (by decide) (by decide)]; exact hR
    refine tl_iload_n rfl rfl ?_
    refine tl_aload_n rfl rfl ?_
    refine tl_geti (c := 12) (k9 := 25) rfl rfl rfl ?_
    rw [fr0]
    refine tl_icmp_ge (tgt := 49) rfl rfl ⟨by omega, by omega⟩ ⟨by omega, by omega⟩ (fun c1 => ?_) (fun c1 => ?_)
    · skip
      show jT _ _ 49 _ _ _ _
      -- leaf 0 at 49
      rw [show (k : Int) = R 70 by omega]
      exact hx mem ⟨fun i hi => i2 i (by omega), fr0, fr, fr2⟩
    · show jT _ _ 24 _ _ _ _
      refine tl_aload_n rfl rfl ?_
      refine tl_getr (c := 12) (k9 := 23) (b := 403) rfl rfl rfl rfl ?_
      show jT _ _ 28 _ _ _ _
      refine tl_iload_n rfl rfl ?_
      refine tl_iconst rfl ?_
      refine tl_iast (n := 64) rfl rfl rfl (by omega) (by omega) ?_
      refine tl_aload_n rfl rfl ?_
      refine tl_getr (c := 12) (k9 := 24) (b := 404) rfl rfl rfl rfl ?_
      refine tl_iload_n rfl rfl ?_
      refine tl_aload_n rfl rfl ?_
      show jT _ _ 37 _ _ _ _
      refine tl_iconst rfl ?_
      refine tl_iload_n rfl rfl ?_
      refine tl_v2i (c9 := 12) (c_at l _ 1 ((k : Int)) (by decide) (by decide) (by omega) (by omega)) rfl rfl rfl rfl rfl (Nat.le_of_ble_eq_true rfl) (fun z1 h1 p1 => ?_)
      obtain ⟨q1, p1⟩ := p1
      have q1 := q1.symm
      subst q1
      rw [show ((6 : Int) + 65 * 1 + ((k : Int))).toNat = 71 + ((k : Int)).toNat by omega, hs_O (show (390 : Nat) ≠ 403 by decide), e390] at p1
      rw [Int.toNat_natCast] at p1
      refine tl_iast (n := 64) rfl rfl rfl (by omega) (by omega) ?_
      refine tl_iinc rfl rfl rfl ?_
      refine tl_goto (tgt := 16) rfl rfl ?_
      show jT _ _ 16 _ _ _ _
      -- leaf 1 at 16
      refine ih (k + 1) _ (by omega) ⟨by omega, fun i hi => ?_, by rw [hs_o (by decide), hs_o (by decide)]; exact fr0, fun x x1 x2 x3 => by rw [hs_O x3, hs_O x2]; exact fr x x1 x2 x3, fun q hq => by rw [hs_o (by decide), hs_o (by decide)]; exact fr2 q hq⟩
      rw [Int.toNat_natCast, pv_a, pv_b]
      by_cases c : i = k
      · subst c; rw [if_pos rfl, if_pos rfl, p1]; exact ⟨rfl, rfl⟩
      · rw [if_neg c, if_neg c]; exact i2 i (by omega)
set_option maxRecDepth 20000 in
set_option maxHeartbeats 1000000 in
theorem r_lo_C (l : Launch) (h : jH) (R : Nat → Int) (hR : h 390 = R) (ok : Rok R) (lst : Int) (T : jH) (n : Nat) (ti : TI R T n) (hn : h 388 22 = (n : Int)) (tk : ∀ r, r < 5 → ∀ i, i < n → h (398 + r) i = T r i) (a : Nat) (ha : a < n) (P : Option Value → jH → Prop) (hx : ∀ mem y3, ((∀ i : Nat, (i : Int) < R 70 → mem 403 i = ogF R T (a + 1) 0 i ∧ mem 404 i = ogF R T (a + 1) 1 i) ∧ (mem 388 25 = R 70 ∧ (∀ x, x ≠ 388 → x ≠ 403 → x ≠ 404 → mem x = h x) ∧ ∀ q, q ≠ 25 → mem 388 q = h 388 q)) → jT l 254 135 [some (.ref 388), some (.int (jI (lst))), some (.int (jI ((a : Int)))), y3] [] mem P) : ∀ (m : Nat) (k : Nat) (mem : jH), ((aE T a + T 3 a) - (T 0 a - T 4 a)).toNat - k < m → ((k : Int) ≤ (aE T a + T 3 a) - (T 0 a - T 4 a) ∧ (∀ i : Nat, (i : Int) < R 70 → mem 403 i = (if (T 0 a - T 4 a) ≤ (i : Int) ∧ (i : Int) < (T 0 a - T 4 a) + (k : Int) then ogF R T (a + 1) 0 i else ogF R T a 0 i) ∧ mem 404 i = (if (T 0 a - T 4 a) ≤ (i : Int) ∧ (i : Int) < (T 0 a - T 4 a) + (k : Int) then ogF R T (a + 1) 1 i else ogF R T a 1 i)) ∧ (mem 388 25 = R 70 ∧ (∀ x, x ≠ 388 → x ≠ 403 → x ≠ 404 → mem x = h x) ∧ ∀ q, q ≠ 25 → mem 388 q = h 388 q)) → jT l 254 73 [some (.ref 388), some (.int (jI (lst))), some (.int (jI ((a : Int)))), some (.int (jI ((T 0 a - T 4 a) + (k : Int))))] [] mem P := by
  have ok9 := ok
  obtain ⟨k1, k2, k3, k4, k5, k6, k7⟩ := ok9
  have n33 := ti.1.n33 ok
  have bd := ti.1.bds ok ha
  have ll := ti.1.lim ha
  obtain ⟨⟨r1, r2⟩, ⟨r3, r4⟩, r5⟩ := ti.2 a ha
  have r6 : 0 ≤ T 0 a - T 4 a := by
    by_cases c : a = 0
    · rw [if_pos c] at r4; exact r4
    · rw [if_neg c] at r4
      have := (ti.1.bds ok (i := a - 1) (by omega)).2.2.2.1
      omega
  intro m
  induction m with
  | zero => intro k mem hk; omega
  | succ m ih =>
    intro k mem hk hi
    obtain ⟨i0, i2, fr0, fr, fr2⟩ := hi
    have e390 : mem 390 = R := by rw [fr 390 (by decide) (by decide) (by decide)]; exact hR
    refine tl_iload_n rfl rfl ?_
    refine tl_aload_n rfl rfl ?_
    refine tl_iload_n rfl rfl ?_
    refine tl_v1i (c9 := 12) (r_endOf l mem T a (by omega) (by rw [fr 398 (by decide) (by decide) (by decide)]; exact tk 0 (by omega) a (by omega)) (by rw [fr 400 (by decide) (by decide) (by decide)]; exact tk 2 (by omega) a (by omega))) rfl rfl rfl rfl rfl (Nat.le_of_ble_eq_true rfl) (fun z1 h1 p1 => ?_)
    obtain ⟨q1, rfl⟩ := p1
    have q1 := q1.symm
    subst q1
    refine tl_aload_n rfl rfl ?_
    refine tl_getr (c := 12) (k9 := 20) (b := 401) rfl rfl rfl rfl ?_
    show jT _ _ 83 _ _ _ _
    refine tl_iload_n rfl rfl ?_
    refine tl_iald (n := 66) rfl rfl rfl (by omega) (by omega) ?_
    rw [Int.toNat_natCast, fr 401 (by decide) (by decide) (by decide), show h 401 a = T 3 a from tk 3 (by omega) a ha]
    refine tl_iadd rfl ?_
    refine tl_icmp_ge (tgt := 135) rfl rfl ⟨by omega, by omega⟩ ⟨by omega, by omega⟩ (fun c1 => ?_) (fun c1 => ?_)
    · skip
      show jT _ _ 135 _ _ _ _
      -- leaf 0 at 135
      refine hx mem _ ⟨fun i hi => ?_, fr0, fr, fr2⟩
      have q := i2 i hi
      rw [show (T 0 a - T 4 a) + (k : Int) = (aE T a + T 3 a) by omega] at q
      by_cases c : (T 0 a - T 4 a) ≤ (i : Int) ∧ (i : Int) < (aE T a + T 3 a)
      · rw [if_pos c, if_pos c] at q; exact q
      · rw [if_neg c, if_neg c] at q
        rw [og_s, og_s, if_neg c, if_neg c]; exact q
    · show jT _ _ 89 _ _ _ _
      have op := r5 ((T 0 a - T 4 a) + (k : Int)) (by omega) (by omega)
      have ot := opn_t op
      refine tl_aload_n rfl rfl ?_
      refine tl_getr (c := 12) (k9 := 23) (b := 403) rfl rfl rfl rfl ?_
      refine tl_iload_n rfl rfl ?_
      show jT _ _ 94 _ _ _ _
      refine tl_iload_n rfl rfl ?_
      refine tl_aload_n rfl rfl ?_
      refine tl_iload_n rfl rfl ?_
      refine tl_v1i (c9 := 12) (r_awayOf l mem T a (by omega) (by rw [fr 398 (by decide) (by decide) (by decide)]; exact tk 0 (by omega) a (by omega)) (by rw [fr 399 (by decide) (by decide) (by decide)]; exact tk 1 (by omega) a (by omega))) rfl rfl rfl rfl rfl (Nat.le_of_ble_eq_true rfl) (fun z2 h2 p2 => ?_)
      obtain ⟨q2, rfl⟩ := p2
      have q2 := q2.symm
      subst q2
      refine tl_iadd rfl ?_
      refine tl_iast (n := 64) rfl rfl rfl (by omega) (by omega) ?_
      refine tl_aload_n rfl rfl ?_
      show jT _ _ 103 _ _ _ _
      refine tl_getr (c := 12) (k9 := 24) (b := 404) rfl rfl rfl rfl ?_
      refine tl_iload_n rfl rfl ?_
      refine tl_aload_n rfl rfl ?_
      refine tl_iconst rfl ?_
      refine tl_iload_n rfl rfl ?_
      refine tl_v2i (c9 := 12) (c_at l _ 1 ((T 0 a - T 4 a) + (k : Int)) (by decide) (by decide) (by omega) (by omega)) rfl rfl rfl rfl rfl (Nat.le_of_ble_eq_true rfl) (fun z3 h3 p3 => ?_)
      obtain ⟨q3, p3⟩ := p3
      have q3 := q3.symm
      subst q3
      rw [show ((6 : Int) + 65 * 1 + ((T 0 a - T 4 a) + (k : Int))).toNat = 71 + ((T 0 a - T 4 a) + (k : Int)).toNat by omega, hs_O (show (390 : Nat) ≠ 403 by decide), e390] at p3
      have y3 := k6 ((T 0 a - T 4 a) + (k : Int)).toNat (by omega)
      have ya3 := y3.1
      have yb3 := y3.2
      refine tl_aload_n rfl rfl ?_
      show jT _ _ 114 _ _ _ _
      refine tl_iconst rfl ?_
      refine tl_aload_n rfl rfl ?_
      refine tl_getr (c := 12) (k9 := 23) (b := 403) rfl rfl rfl rfl ?_
      refine tl_iload_n rfl rfl ?_
      refine tl_iald (n := 64) rfl rfl rfl (by omega) (by omega) ?_
      rw [hs_s]
      refine tl_v2i (c9 := 12) (c_at l _ 0 ((T 0 a - T 4 a) + (k : Int) + aW T a) (by decide) (by decide) (by omega) (by omega)) rfl rfl rfl rfl rfl (Nat.le_of_ble_eq_true rfl) (fun z4 h4 p4 => ?_)
      obtain ⟨q4, p4⟩ := p4
      have q4 := q4.symm
      subst q4
      rw [show ((6 : Int) + 65 * 0 + ((T 0 a - T 4 a) + (k : Int) + aW T a)).toNat = 6 + ((T 0 a - T 4 a) + (k : Int) + aW T a).toNat by omega, hs_O (show (390 : Nat) ≠ 403 by decide), e390] at p4
      have y4 := k5 ((T 0 a - T 4 a) + (k : Int) + aW T a).toNat (by omega)
      have ya4 := y4.1
      have yb4 := y4.2
      refine tl_isub rfl ?_
      rw [p3, p4]
      show jT _ _ 125 _ _ _ _
      refine tl_s1i (r_byteIn l _ _ ⟨by omega, by omega⟩) rfl rfl rfl (Nat.le_of_ble_eq_true rfl) (fun z5 h5 p5 => ?_)
      obtain ⟨q5, rfl⟩ := p5
      have q5 := q5.symm
      subst q5
      refine tl_iast (n := 64) rfl rfl rfl (by omega) (by omega) ?_
      refine tl_iinc rfl rfl rfl ?_
      refine tl_goto (tgt := 73) rfl rfl ?_
      show jT _ _ 73 _ _ _ _
      -- leaf 1 at 73
      refine jT.loc ?_ (ih (k + 1) _ (by omega) ⟨by omega, fun i hi => ?_, by rw [hs_o (by decide), hs_o (by decide)]; exact fr0, fun x x1 x2 x3 => by rw [hs_O x3, hs_O x2]; exact fr x x1 x2 x3, fun q hq => by rw [hs_o (by decide), hs_o (by decide)]; exact fr2 q hq⟩)
      · rw [show (T 0 a - T 4 a) + ((k + 1 : Nat) : Int) = (T 0 a - T 4 a) + (k : Int) + 1 by omega]
        rfl
      · rw [pv_a, pv_b]
        by_cases c : i = ((T 0 a - T 4 a) + (k : Int)).toNat
        · rw [if_pos c, if_pos c, if_pos (by omega), if_pos (by omega), og_s, og_s, if_pos (by omega), if_pos rfl, if_pos (by omega), if_neg (by omega), c, show ((((T 0 a - T 4 a) + (k : Int)).toNat : Nat) : Int) = (T 0 a - T 4 a) + (k : Int) by omega]
          exact ⟨rfl, rfl⟩
        · rw [if_neg c, if_neg c]
          have q := i2 i hi
          by_cases d : (T 0 a - T 4 a) ≤ (i : Int) ∧ (i : Int) < (T 0 a - T 4 a) + (k : Int)
          · rw [if_pos d, if_pos d] at q; rw [if_pos (by omega), if_pos (by omega)]; exact q
          · rw [if_neg d, if_neg d] at q; rw [if_neg (by omega), if_neg (by omega)]; exact q
set_option maxRecDepth 20000 in
set_option maxHeartbeats 1000000 in
theorem r_lo_B (l : Launch) (h : jH) (R : Nat → Int) (hR : h 390 = R) (ok : Rok R) (lst : Int) (T : jH) (n : Nat) (ti : TI R T n) (hn : h 388 22 = (n : Int)) (tk : ∀ r, r < 5 → ∀ i, i < n → h (398 + r) i = T r i) (P : Option Value → jH → Prop) (hP : ∀ mem, ((∀ i : Nat, (i : Int) < R 70 → mem 403 i = ogF R T n 0 i ∧ mem 404 i = ogF R T n 1 i) ∧ (mem 388 25 = R 70 ∧ (∀ x, x ≠ 388 → x ≠ 403 → x ≠ 404 → mem x = h x) ∧ ∀ q, q ≠ 25 → mem 388 q = h 388 q)) → P none mem) : ∀ (m : Nat) (a : Nat) (mem : jH) (y3 : Option Value), n - a < m → (a ≤ n ∧ (∀ i : Nat, (i : Int) < R 70 → mem 403 i = ogF R T a 0 i ∧ mem 404 i = ogF R T a 1 i) ∧ (mem 388 25 = R 70 ∧ (∀ x, x ≠ 388 → x ≠ 403 → x ≠ 404 → mem x = h x) ∧ ∀ q, q ≠ 25 → mem 388 q = h 388 q)) → jT l 254 51 [some (.ref 388), some (.int (jI (lst))), some (.int (jI ((a : Int)))), y3] [] mem P := by
  have ok9 := ok
  obtain ⟨k1, k2, k3, k4, k5, k6, k7⟩ := ok9
  have n33 := ti.1.n33 ok
  intro m
  induction m with
  | zero => intro a mem y3 hk; omega
  | succ m ih =>
    intro a mem y3 hk hi
    obtain ⟨i0, i2, fr0, fr, fr2⟩ := hi
    refine tl_iload_n rfl rfl ?_
    refine tl_aload_n rfl rfl ?_
    refine tl_geti (c := 12) (k9 := 22) rfl rfl rfl ?_
    rw [fr2 22 (by decide), hn]
    refine tl_icmp_ge (tgt := 141) rfl rfl ⟨by omega, by omega⟩ ⟨by omega, by omega⟩ (fun c1 => ?_) (fun c1 => ?_)
    · skip
      refine tl_ret rfl ?_
      -- leaf 0 at 141
      have e : a = n := by omega
      rw [e] at i2
      exact hP mem ⟨i2, fr0, fr, fr2⟩
    · show jT _ _ 59 _ _ _ _
      refine tl_aload_n rfl rfl ?_
      show jT _ _ 60 _ _ _ _
      refine tl_getr (c := 12) (k9 := 17) (b := 398) rfl rfl rfl rfl ?_
      refine tl_iload_n rfl rfl ?_
      refine tl_iald (n := 66) rfl rfl rfl (by omega) (by omega) ?_
      rw [Int.toNat_natCast, fr 398 (by decide) (by decide) (by decide), show h 398 a = T 0 a from tk 0 (by omega) a (by omega)]
      refine tl_aload_n rfl rfl ?_
      refine tl_getr (c := 12) (k9 := 21) (b := 402) rfl rfl rfl rfl ?_
      refine tl_iload_n rfl rfl ?_
      refine tl_iald (n := 66) rfl rfl rfl (by omega) (by omega) ?_
      rw [Int.toNat_natCast, fr 402 (by decide) (by decide) (by decide), show h 402 a = T 4 a from tk 4 (by omega) a (by omega)]
      show jT _ _ 71 _ _ _ _
      refine tl_isub rfl ?_
      refine tl_istore_n rfl (Nat.le_of_ble_eq_true rfl) rfl ?_
      show jT _ _ 73 _ _ _ _
      -- leaf 1 at 73
      have ha : a < n := by omega
      have rr := (ti.2 a ha)
      have bq := ti.1.bds ok ha
      refine jT.loc ?_ (r_lo_C l h R hR ok lst T n ti hn tk a ha P (fun mem2 y3 hj => ?_) _ 0 mem (Nat.lt_succ_self _) ⟨by omega, fun i hi => ?_, fr0, fr, fr2⟩)
      · rw [show (T 0 a - T 4 a) + ((0 : Nat) : Int) = (T 0 a - T 4 a) by omega]
        rfl
      · skip
        refine tl_iinc rfl rfl rfl ?_
        refine tl_goto (tgt := 51) rfl rfl ?_
        show jT _ _ 51 _ _ _ _
        -- leaf 0 at 51
        exact ih (a + 1) mem2 _ (by omega) ⟨by omega, hj⟩
      · rw [if_neg (by omega), if_neg (by omega)]; exact i2 i hi
set_option maxRecDepth 20000 in
set_option maxHeartbeats 1000000 in
theorem r_layOrigins (l : Launch) (h : jH) (R : Nat → Int) (hR : h 390 = R) (ok : Rok R) (hT : Rt R) (lst : Int) (l2 : 2 ≤ lst) (l9 : lst ≤ 9) : cV l 254 [.ref 388, .int (jI lst)] h (fun h' => ((h' 388 22 = (anN R lst : Int) ∧ (∀ r, r < 5 → ∀ i, i < anN R lst → h' (398 + r) i = anT R lst r i)) ∧ (h' 388 25 = R 70 ∧ (∀ i : Nat, (i : Int) < R 70 → h' 403 i = ogT R lst 0 i ∧ h' 404 i = ogT R lst 1 i)) ∧ (∀ x, (x ≠ 388 ∧ (x < 398 ∨ 404 < x)) → h' x = h x) ∧ ∀ q, (q < 14 ∨ (16 < q ∧ q ≠ 22 ∧ q ≠ 25)) → h' 388 q = h 388 q)) := by
  have ok9 := ok
  obtain ⟨k1, k2, k3, k4, k5, k6, k7⟩ := ok9
  refine cV.of rfl rfl ?_
  refine tl_aload_n rfl rfl ?_
  refine tl_iload_n rfl rfl ?_
  refine tl_v1v (c9 := 12) (r_layAnchors l h R hR ok hT lst l2 l9) rfl rfl rfl rfl rfl (Nat.le_of_ble_eq_true rfl) (fun h1 p1 => ?_)
  obtain ⟨g1, g2, g3, g4⟩ := p1
  have e391 : h1 390 = R := by rw [g3 390 (by omega)]; exact hR
  refine tl_aload_n rfl rfl ?_
  refine tl_aload_n rfl rfl ?_
  refine tl_iconst rfl ?_
  show jT _ _ 8 _ _ _ _
  refine tl_v1i (c9 := 12) (c_sizeOf l _ 1 (by decide) (by decide)) rfl rfl rfl rfl rfl (Nat.le_of_ble_eq_true rfl) (fun z1 h1 p1 => ?_)
  obtain ⟨q1, rfl⟩ := p1
  have q1 := q1.symm
  subst q1
  rw [show (5 + 65 * 1 : Int).toNat = 70 from rfl]
  rw [e391]
  refine tl_puti (c := 12) (k9 := 25) rfl rfl rfl rfl ?_
  refine tl_iconst rfl ?_
  refine tl_istore_n rfl (Nat.le_of_ble_eq_true rfl) rfl ?_
  show jT _ _ 16 _ _ _ _
  -- leaf 0 at 16
  refine r_lo_A l (hs h1 388 25 (R 70)) R (by rw [hs_O (by decide)]; exact e391) ok lst (anT R lst) (anN R lst) (an_TI ok l2) (by rw [hs_k (by decide)]; exact g1) (fun r hr i hi => by rw [hs_o (by omega)]; exact g2 r hr i hi) _ (fun mem hj => ?_) _ 0 _ (Nat.lt_succ_self _) ⟨by omega, fun i hi => by omega, hs_s, fun x _ _ _ => rfl, fun q _ => rfl⟩
  refine tl_iconst rfl ?_
  refine tl_istore_n rfl (Nat.le_of_ble_eq_true rfl) rfl ?_
  show jT _ _ 51 _ _ _ _
  -- leaf 0 at 51
  refine r_lo_B l (hs h1 388 25 (R 70)) R (by rw [hs_O (by decide)]; exact e391) ok lst (anT R lst) (anN R lst) (an_TI ok l2) (by rw [hs_k (by decide)]; exact g1) (fun r hr i hi => by rw [hs_o (by omega)]; exact g2 r hr i hi) _ (fun mem2 hj2 => ⟨rfl, ?_⟩) _ 0 mem _ (Nat.lt_succ_self _) ⟨Nat.zero_le _, hj⟩
  obtain ⟨a1, a2, a3, a4⟩ := hj2
  refine ⟨⟨by rw [a4 22 (by decide), hs_k (by decide)]; exact g1, fun r hr i hi => by rw [a3 (398 + r) (by omega) (by omega) (by omega), hs_o (by omega)]; exact g2 r hr i hi⟩, ⟨a2, a1⟩, fun x hx => by rw [a3 x (by omega) (by omega) (by omega), hs_O (by omega)]; exact g3 x (by omega), fun q hq => by rw [a4 q (by omega), hs_k (by omega)]; exact g4 q (by omega)⟩
def Aan (R : Nat → Int) (i w : Int) : Int := if 0 ≤ i ∧ i < (anN R (R 0) : Int) then (if 0 ≤ w ∧ w ≤ 4 then anT R (R 0) w.toNat i.toNat else -1) else -1
def Aor (R : Nat → Int) (i w : Int) : Int := if (0 ≤ i ∧ i < R 70) ∧ 0 ≤ w ∧ w ≤ 1 then ogT R (R 0) w.toNat i.toNat else -1
def Danchor (s : jH) (i w : Int) : Int × jH := (Aan (s 390) i w, s)
def Dorigin (s : jH) (i w : Int) : Int × jH := (Aor (s 390) i w, s)
theorem Ag.anchor {s s' : jH} (h : Ag s s') (k w : Int) : AgD (Danchor s k w) (Danchor s' k w) := AgD.rd h (by rw [h 390 (by decide)])
theorem Ag.origin {s s' : jH} (h : Ag s s') (k w : Int) : AgD (Dorigin s k w) (Dorigin s' k w) := AgD.rd h (by rw [h 390 (by decide)])
theorem IC.te {h s : jH} {t : Int} (hI : IC h s t) : ∀ k, k < 5 → h 311 k = s 390 k := fun k hk => (hI.2.2.2.1 k hk).1
set_option maxRecDepth 20000 in
set_option maxHeartbeats 1000000 in
theorem k_anchor (l : Launch) (h s : jH) (t i w : Int) (hI : IC h s t) (hi : jr i) (hw9 : jr w) : cI l 170 [.ref 0, .int (jI i), .int (jI w)] h (PK h t (Danchor s i w)) := by
  have i1 := hi.1
  have i2 := hi.2
  have w1 := hw9.1
  have w2 := hw9.2
  refine cI.of rfl rfl ?_
  refine tl_aload_n rfl rfl ?_
  refine tl_v0v (c9 := 11) (k_findAnchors l h (s 390) hI.1 hI.rt hI.te) rfl rfl rfl rfl rfl (Nat.le_of_ble_eq_true rfl) (fun h1 p1 => ?_)
  obtain ⟨g1, g2, g3, g4, fr⟩ := p1
  have kf : KF h h1 := KF.of (fun x hx => fr x (by omega))
  have n33 := (an_TI hI.ok (lst := s 390 0) hI.rt.1.1).1.n33 hI.ok
  refine tl_iload_n rfl rfl ?_
  refine tl_if_lt (tgt := 19) rfl rfl ⟨by omega, by omega⟩ (fun c1 => ?_) (fun c1 => ?_)
  · skip
    refine tl_iconst rfl ?_
    refine tl_iret rfl ?_
    -- leaf 0 at 20
    refine ⟨_, rfl, ?_⟩
    rw [Danchor, Aan]
    first | rw [if_neg (by omega)] | (rw [if_pos (by omega), if_pos (by omega)]; simp only [*]) | rw [if_pos (by omega), if_neg (by omega)]
    exact PK.rd hI kf
  · show jT _ _ 8 _ _ _ _
    show jT _ _ 8 _ _ _ _
    refine tl_iload_n rfl rfl ?_
    refine tl_aload_n rfl rfl ?_
    refine tl_getr (c := 11) (k9 := 11) (b := 319) rfl rfl rfl rfl ?_
    refine tl_geti (c := 0) (k9 := 5) rfl rfl rfl ?_
    rw [g1]
    refine tl_icmp_lt (tgt := 21) rfl rfl ⟨by omega, by omega⟩ ⟨by omega, by omega⟩ (fun c2 => ?_) (fun c2 => ?_)
    · skip
      refine tl_iload_n rfl rfl ?_
      by_cases ct3 : w < 0 ∨ 4 < w
      · refine tl_tabO (tgt := 106) rfl ⟨by omega, by omega⟩ ct3 rfl ?_
        show jT _ _ 106 _ _ _ _
        refine tl_iconst rfl ?_
        refine tl_iret rfl ?_
        -- leaf 1 at 107
        refine ⟨_, rfl, ?_⟩
        rw [Danchor, Aan]
        first | rw [if_neg (by omega)] | (rw [if_pos (by omega), if_pos (by omega)]; simp only [*]) | rw [if_pos (by omega), if_neg (by omega)]
        exact PK.rd hI kf
      · have ct3b : w = 0 ∨ w = 1 ∨ w = 2 ∨ w = 3 ∨ w = 4 := by omega
        rcases ct3b with ct3b | ct3b | ct3b | ct3b | ct3b
        · refine tl_tabI (off := 34) (tgt := 56) rfl ⟨by omega, by omega⟩ (by omega) (by omega) (by rw [ct3b]; rfl) rfl ?_
          refine tl_aload_n rfl rfl ?_
          refine tl_getr (c := 11) (k9 := 11) (b := 319) rfl rfl rfl rfl ?_
          refine tl_getr (c := 0) (k9 := 0) (b := 320) rfl rfl rfl rfl ?_
          refine tl_iload_n rfl rfl ?_
          refine tl_iald (n := 64) rfl rfl rfl (by omega) (by omega) ?_
          rw [show h1 320 i.toNat = anT (s 390) (s 390 0) 0 i.toNat from g2 0 (by omega) _ (by omega)]
          show jT _ _ 65 _ _ _ _
          refine tl_iret rfl ?_
          -- leaf 2 at 65
          refine ⟨_, rfl, ?_⟩
          rw [Danchor, Aan]
          first | rw [if_neg (by omega)] | (rw [if_pos (by omega), if_pos (by omega)]; simp only [*]) | rw [if_pos (by omega), if_neg (by omega)]
          exact PK.rd hI kf
        · refine tl_tabI (off := 44) (tgt := 66) rfl ⟨by omega, by omega⟩ (by omega) (by omega) (by rw [ct3b]; rfl) rfl ?_
          refine tl_aload_n rfl rfl ?_
          refine tl_getr (c := 11) (k9 := 11) (b := 319) rfl rfl rfl rfl ?_
          refine tl_getr (c := 0) (k9 := 1) (b := 321) rfl rfl rfl rfl ?_
          refine tl_iload_n rfl rfl ?_
          refine tl_iald (n := 64) rfl rfl rfl (by omega) (by omega) ?_
          rw [show h1 321 i.toNat = anT (s 390) (s 390 0) 1 i.toNat from g2 1 (by omega) _ (by omega)]
          refine tl_iret rfl ?_
          -- leaf 3 at 75
          refine ⟨_, rfl, ?_⟩
          rw [Danchor, Aan]
          first | rw [if_neg (by omega)] | (rw [if_pos (by omega), if_pos (by omega)]; simp only [*]) | rw [if_pos (by omega), if_neg (by omega)]
          exact PK.rd hI kf
        · refine tl_tabI (off := 54) (tgt := 76) rfl ⟨by omega, by omega⟩ (by omega) (by omega) (by rw [ct3b]; rfl) rfl ?_
          show jT _ _ 76 _ _ _ _
          refine tl_aload_n rfl rfl ?_
          refine tl_getr (c := 11) (k9 := 11) (b := 319) rfl rfl rfl rfl ?_
          refine tl_getr (c := 0) (k9 := 2) (b := 322) rfl rfl rfl rfl ?_
          refine tl_iload_n rfl rfl ?_
          refine tl_iald (n := 64) rfl rfl rfl (by omega) (by omega) ?_
          rw [show h1 322 i.toNat = anT (s 390) (s 390 0) 2 i.toNat from g2 2 (by omega) _ (by omega)]
          refine tl_iret rfl ?_
          -- leaf 4 at 85
          refine ⟨_, rfl, ?_⟩
          rw [Danchor, Aan]
          first | rw [if_neg (by omega)] | (rw [if_pos (by omega), if_pos (by omega)]; simp only [*]) | rw [if_pos (by omega), if_neg (by omega)]
          exact PK.rd hI kf
        · refine tl_tabI (off := 64) (tgt := 86) rfl ⟨by omega, by omega⟩ (by omega) (by omega) (by rw [ct3b]; rfl) rfl ?_
          refine tl_aload_n rfl rfl ?_
          show jT _ _ 87 _ _ _ _
          refine tl_getr (c := 11) (k9 := 11) (b := 319) rfl rfl rfl rfl ?_
          refine tl_getr (c := 0) (k9 := 3) (b := 323) rfl rfl rfl rfl ?_
          refine tl_iload_n rfl rfl ?_
          refine tl_iald (n := 64) rfl rfl rfl (by omega) (by omega) ?_
          rw [show h1 323 i.toNat = anT (s 390) (s 390 0) 3 i.toNat from g2 3 (by omega) _ (by omega)]
          refine tl_iret rfl ?_
          -- leaf 5 at 95
          refine ⟨_, rfl, ?_⟩
          rw [Danchor, Aan]
          first | rw [if_neg (by omega)] | (rw [if_pos (by omega), if_pos (by omega)]; simp only [*]) | rw [if_pos (by omega), if_neg (by omega)]
          exact PK.rd hI kf
        · refine tl_tabI (off := 74) (tgt := 96) rfl ⟨by omega, by omega⟩ (by omega) (by omega) (by rw [ct3b]; rfl) rfl ?_
          refine tl_aload_n rfl rfl ?_
          refine tl_getr (c := 11) (k9 := 11) (b := 319) rfl rfl rfl rfl ?_
          show jT _ _ 100 _ _ _ _
          refine tl_getr (c := 0) (k9 := 4) (b := 324) rfl rfl rfl rfl ?_
          refine tl_iload_n rfl rfl ?_
          refine tl_iald (n := 64) rfl rfl rfl (by omega) (by omega) ?_
          rw [show h1 324 i.toNat = anT (s 390) (s 390 0) 4 i.toNat from g2 4 (by omega) _ (by omega)]
          refine tl_iret rfl ?_
          -- leaf 6 at 105
          refine ⟨_, rfl, ?_⟩
          rw [Danchor, Aan]
          first | rw [if_neg (by omega)] | (rw [if_pos (by omega), if_pos (by omega)]; simp only [*]) | rw [if_pos (by omega), if_neg (by omega)]
          exact PK.rd hI kf
    · show jT _ _ 19 _ _ _ _
      refine tl_iconst rfl ?_
      refine tl_iret rfl ?_
      -- leaf 7 at 20
      refine ⟨_, rfl, ?_⟩
      rw [Danchor, Aan]
      first | rw [if_neg (by omega)] | (rw [if_pos (by omega), if_pos (by omega)]; simp only [*]) | rw [if_pos (by omega), if_neg (by omega)]
      exact PK.rd hI kf
set_option maxRecDepth 20000 in
set_option maxHeartbeats 1000000 in
theorem r_anchor (l : Launch) (g h : jH) (t i w : Int) (hI0 : IC g h t) (hi : jr i) (hw9 : jr w) : cI l 255 [.ref 388, .int (jI i), .int (jI w)] h (PRF (Danchor (Tz h) i w)) := by
  have i1 := hi.1
  have i2 := hi.2
  have w1 := hw9.1
  have w2 := hw9.2
  refine cI.of rfl rfl ?_
  refine tl_aload_n rfl rfl ?_
  refine tl_iconst rfl ?_
  refine tl_puti (c := 12) (k9 := 0) rfl rfl rfl rfl ?_
  have hI := hI0.z
  change jT _ _ _ _ _ (Tz h) _
  generalize Tz h = m at hI ⊢
  have ok := hI.ok
  have hT := hI.rt
  have q0 := hT.1
  refine tl_aload_n rfl rfl ?_
  refine tl_aload_n rfl rfl ?_
  refine tl_getr (c := 12) (k9 := 3) (b := 390) rfl rfl rfl rfl ?_
  show jT _ _ 10 _ _ _ _
  refine tl_iconst rfl ?_
  refine tl_iald (n := 1362) rfl rfl rfl (by omega) (by omega) ?_
  rw [show Int.toNat 0 = 0 from rfl]
  refine tl_v1v (c9 := 12) (r_layAnchors l m (m 390) rfl ok hT (m 390 0) (by omega) (by omega)) rfl rfl rfl rfl rfl (Nat.le_of_ble_eq_true rfl) (fun h1 p1 => ?_)
  obtain ⟨g1, g2, fr, fr2⟩ := p1
  have rf : RF m h1 := RF.of (fun x hx => fr x (by omega)) (fun q hq => fr2 q (by omega))
  have n33 := (an_TI ok (lst := m 390 0) (by omega)).1.n33 ok
  refine tl_iload_n rfl rfl ?_
  refine tl_i2l rfl ⟨by omega, by omega⟩ ?_
  refine tl_lconst (z := 0) rfl rfl ?_
  refine tl_aload_n rfl rfl ?_
  show jT _ _ 19 _ _ _ _
  refine tl_geti (c := 12) (k9 := 22) rfl rfl rfl ?_
  rw [g1]
  refine tl_i2l rfl ⟨by omega, by omega⟩ ?_
  refine tl_lconst (z := 1) rfl rfl ?_
  refine tl_lsub rfl ?_
  refine tl_s3i (c_in l _ _ _ _ ⟨by omega, by omega⟩ ⟨by omega, by omega⟩ ⟨by omega, by omega⟩) rfl rfl rfl (Nat.le_of_ble_eq_true rfl) (fun z2 h2 p2 => ?_)
  obtain ⟨q2, p2⟩ := p2
  have q2 := q2.symm
  subst q2
  have b2 : z2 = 0 ∨ z2 = 1 := by rw [p2]; split <;> omega
  refine tl_if_ne (tgt := 33) rfl rfl ⟨by omega, by omega⟩ (fun c1 => ?_) (fun c1 => ?_)
  · skip
    refine tl_iload_n rfl rfl ?_
    show jT _ _ 34 _ _ _ _
    by_cases ct2 : w < 0 ∨ 4 < w
    · refine tl_tabO (tgt := 103) rfl ⟨by omega, by omega⟩ ct2 rfl ?_
      refine tl_iconst rfl ?_
      refine tl_iret rfl ?_
      -- leaf 0 at 104
      refine ⟨_, rfl, ?_⟩
      rw [Danchor, Aan]
      first | rw [if_neg (by omega)] | (rw [if_pos (by omega), if_pos (by omega)]; simp only [*]) | rw [if_pos (by omega), if_neg (by omega)]
      exact PRF.rd rf
    · have ct2b : w = 0 ∨ w = 1 ∨ w = 2 ∨ w = 3 ∨ w = 4 := by omega
      rcases ct2b with ct2b | ct2b | ct2b | ct2b | ct2b
      · refine tl_tabI (off := 34) (tgt := 68) rfl ⟨by omega, by omega⟩ (by omega) (by omega) (by rw [ct2b]; rfl) rfl ?_
        refine tl_aload_n rfl rfl ?_
        refine tl_getr (c := 12) (k9 := 17) (b := 398) rfl rfl rfl rfl ?_
        refine tl_iload_n rfl rfl ?_
        refine tl_iald (n := 66) rfl rfl rfl (by omega) (by omega) ?_
        rw [show h1 398 i.toNat = anT (m 390) (m 390 0) 0 i.toNat from g2 0 (by omega) _ (by omega)]
        show jT _ _ 74 _ _ _ _
        refine tl_iret rfl ?_
        -- leaf 1 at 74
        refine ⟨_, rfl, ?_⟩
        rw [Danchor, Aan]
        first | rw [if_neg (by omega)] | (rw [if_pos (by omega), if_pos (by omega)]; simp only [*]) | rw [if_pos (by omega), if_neg (by omega)]
        exact PRF.rd rf
      · refine tl_tabI (off := 41) (tgt := 75) rfl ⟨by omega, by omega⟩ (by omega) (by omega) (by rw [ct2b]; rfl) rfl ?_
        refine tl_aload_n rfl rfl ?_
        refine tl_getr (c := 12) (k9 := 18) (b := 399) rfl rfl rfl rfl ?_
        refine tl_iload_n rfl rfl ?_
        refine tl_iald (n := 66) rfl rfl rfl (by omega) (by omega) ?_
        rw [show h1 399 i.toNat = anT (m 390) (m 390 0) 1 i.toNat from g2 1 (by omega) _ (by omega)]
        refine tl_iret rfl ?_
        -- leaf 2 at 81
        refine ⟨_, rfl, ?_⟩
        rw [Danchor, Aan]
        first | rw [if_neg (by omega)] | (rw [if_pos (by omega), if_pos (by omega)]; simp only [*]) | rw [if_pos (by omega), if_neg (by omega)]
        exact PRF.rd rf
      · refine tl_tabI (off := 48) (tgt := 82) rfl ⟨by omega, by omega⟩ (by omega) (by omega) (by rw [ct2b]; rfl) rfl ?_
        refine tl_aload_n rfl rfl ?_
        show jT _ _ 83 _ _ _ _
        refine tl_getr (c := 12) (k9 := 19) (b := 400) rfl rfl rfl rfl ?_
        refine tl_iload_n rfl rfl ?_
        refine tl_iald (n := 66) rfl rfl rfl (by omega) (by omega) ?_
        rw [show h1 400 i.toNat = anT (m 390) (m 390 0) 2 i.toNat from g2 2 (by omega) _ (by omega)]
        refine tl_iret rfl ?_
        -- leaf 3 at 88
        refine ⟨_, rfl, ?_⟩
        rw [Danchor, Aan]
        first | rw [if_neg (by omega)] | (rw [if_pos (by omega), if_pos (by omega)]; simp only [*]) | rw [if_pos (by omega), if_neg (by omega)]
        exact PRF.rd rf
      · refine tl_tabI (off := 55) (tgt := 89) rfl ⟨by omega, by omega⟩ (by omega) (by omega) (by rw [ct2b]; rfl) rfl ?_
        refine tl_aload_n rfl rfl ?_
        refine tl_getr (c := 12) (k9 := 20) (b := 401) rfl rfl rfl rfl ?_
        refine tl_iload_n rfl rfl ?_
        show jT _ _ 94 _ _ _ _
        refine tl_iald (n := 66) rfl rfl rfl (by omega) (by omega) ?_
        rw [show h1 401 i.toNat = anT (m 390) (m 390 0) 3 i.toNat from g2 3 (by omega) _ (by omega)]
        refine tl_iret rfl ?_
        -- leaf 4 at 95
        refine ⟨_, rfl, ?_⟩
        rw [Danchor, Aan]
        first | rw [if_neg (by omega)] | (rw [if_pos (by omega), if_pos (by omega)]; simp only [*]) | rw [if_pos (by omega), if_neg (by omega)]
        exact PRF.rd rf
      · refine tl_tabI (off := 62) (tgt := 96) rfl ⟨by omega, by omega⟩ (by omega) (by omega) (by rw [ct2b]; rfl) rfl ?_
        refine tl_aload_n rfl rfl ?_
        refine tl_getr (c := 12) (k9 := 21) (b := 402) rfl rfl rfl rfl ?_
        refine tl_iload_n rfl rfl ?_
        refine tl_iald (n := 66) rfl rfl rfl (by omega) (by omega) ?_
        rw [show h1 402 i.toNat = anT (m 390) (m 390 0) 4 i.toNat from g2 4 (by omega) _ (by omega)]
        refine tl_iret rfl ?_
        -- leaf 5 at 102
        refine ⟨_, rfl, ?_⟩
        rw [Danchor, Aan]
        first | rw [if_neg (by omega)] | (rw [if_pos (by omega), if_pos (by omega)]; simp only [*]) | rw [if_pos (by omega), if_neg (by omega)]
        exact PRF.rd rf
  · show jT _ _ 31 _ _ _ _
    show jT _ _ 31 _ _ _ _
    refine tl_iconst rfl ?_
    refine tl_iret rfl ?_
    -- leaf 6 at 32
    refine ⟨_, rfl, ?_⟩
    rw [Danchor, Aan]
    first | rw [if_neg (by omega)] | (rw [if_pos (by omega), if_pos (by omega)]; simp only [*]) | rw [if_pos (by omega), if_neg (by omega)]
    exact PRF.rd rf
set_option maxRecDepth 20000 in
set_option maxHeartbeats 1000000 in
theorem k_origin (l : Launch) (h s : jH) (t i w : Int) (hI : IC h s t) (hi : jr i) (hw9 : jr w) : cI l 171 [.ref 0, .int (jI i), .int (jI w)] h (PK h t (Dorigin s i w)) := by
  have i1 := hi.1
  have i2 := hi.2
  have w1 := hw9.1
  have w2 := hw9.2
  have k3 := hI.ok.2.2.1
  have k4 := hI.ok.2.2.2.1
  refine cI.of rfl rfl ?_
  refine tl_iload_n rfl rfl ?_
  refine tl_if_lt (tgt := 18) rfl rfl ⟨by omega, by omega⟩ (fun c1 => ?_) (fun c1 => ?_)
  · skip
    refine tl_iconst rfl ?_
    refine tl_iret rfl ?_
    -- leaf 0 at 19
    refine ⟨_, rfl, ?_⟩
    rw [Dorigin, Aor, if_neg (by omega)]
    exact PK.rd hI KF.rfl'
  · show jT _ _ 4 _ _ _ _
    refine tl_iload_n rfl rfl ?_
    refine tl_aload_n rfl rfl ?_
    show jT _ _ 6 _ _ _ _
    refine tl_getr (c := 11) (k9 := 0) (b := 1) rfl rfl rfl rfl ?_
    refine tl_getr (c := 9) (k9 := 1) (b := 4) rfl rfl rfl rfl ?_
    refine tl_geti (c := 8) (k9 := 1) rfl rfl rfl ?_
    rw [hI.1.o70]
    refine tl_icmp_lt (tgt := 20) rfl rfl ⟨by omega, by omega⟩ ⟨by omega, by omega⟩ (fun c2 => ?_) (fun c2 => ?_)
    · skip
      refine tl_aload_n rfl rfl ?_
      refine tl_v0v (c9 := 11) (k_findAnchors l h (s 390) hI.1 hI.rt hI.te) rfl rfl rfl rfl rfl (Nat.le_of_ble_eq_true rfl) (fun h1 p1 => ?_)
      obtain ⟨g1, g2, g3, g4, fr⟩ := p1
      have kf : KF h h1 := KF.of (fun x hx => fr x (by omega))
      have n33 := (an_TI hI.ok (lst := s 390 0) hI.rt.1.1).1.n33 hI.ok
      have g5 := g4 i.toNat (by omega)
      refine tl_iload_n rfl rfl ?_
      show jT _ _ 25 _ _ _ _
      refine tl_if_ne (tgt := 40) rfl rfl ⟨by omega, by omega⟩ (fun c3 => ?_) (fun c3 => ?_)
      · skip
        refine tl_iload_n rfl rfl ?_
        refine tl_iconst rfl ?_
        refine tl_icmp_ne (tgt := 59) rfl rfl ⟨by omega, by omega⟩ ⟨by omega, by omega⟩ (fun c4 => ?_) (fun c4 => ?_)
        · skip
          refine tl_iconst rfl ?_
          refine tl_iret rfl ?_
          -- leaf 1 at 60
          refine ⟨_, rfl, ?_⟩
          rw [Dorigin, Aor]
          first | rw [if_neg (by omega)] | rw [if_pos (by omega), show w.toNat = 1 by omega, ← g5.2, ← p4]
          exact PK.rd hI kf
        · show jT _ _ 45 _ _ _ _
          refine tl_aload_n rfl rfl ?_
          show jT _ _ 46 _ _ _ _
          refine tl_getr (c := 11) (k9 := 11) (b := 319) rfl rfl rfl rfl ?_
          refine tl_getr (c := 0) (k9 := 6) (b := 325) rfl rfl rfl rfl ?_
          refine tl_iload_n rfl rfl ?_
          refine tl_v1i (c9 := 3) (c_Or_valueAt l Or325 h1 i ⟨by omega, by omega⟩ (by omega) (by omega)) rfl rfl rfl rfl rfl (Nat.le_of_ble_eq_true rfl) (fun z4 h4 p4 => ?_)
          obtain ⟨q4, p4⟩ := p4
          have q4 := q4.symm
          subst q4
          rw [if_pos (by omega)] at p4
          refine tl_goto (tgt := 60) rfl rfl ?_
          refine tl_iret rfl ?_
          -- leaf 2 at 60
          refine ⟨_, rfl, ?_⟩
          rw [Dorigin, Aor]
          first | rw [if_neg (by omega)] | rw [if_pos (by omega), show w.toNat = 1 by omega, ← g5.2, ← p4]
          exact PK.rd hI kf
      · show jT _ _ 28 _ _ _ _
        refine tl_aload_n rfl rfl ?_
        show jT _ _ 29 _ _ _ _
        refine tl_getr (c := 11) (k9 := 11) (b := 319) rfl rfl rfl rfl ?_
        refine tl_getr (c := 0) (k9 := 6) (b := 325) rfl rfl rfl rfl ?_
        refine tl_iload_n rfl rfl ?_
        refine tl_v1i (c9 := 3) (c_Or_placeAt l Or325 h1 i ⟨by omega, by omega⟩ (by omega) (by omega)) rfl rfl rfl rfl rfl (Nat.le_of_ble_eq_true rfl) (fun z3 h3 p3 => ?_)
        obtain ⟨q3, p3⟩ := p3
        have q3 := q3.symm
        subst q3
        rw [if_pos (by omega)] at p3
        refine tl_iret rfl ?_
        -- leaf 3 at 39
        refine ⟨_, rfl, ?_⟩
        rw [Dorigin, Aor, if_pos (by omega), show w.toNat = 0 by omega, ← g5.1, ← p3]
        exact PK.rd hI kf
    · show jT _ _ 18 _ _ _ _
      refine tl_iconst rfl ?_
      refine tl_iret rfl ?_
      -- leaf 4 at 19
      refine ⟨_, rfl, ?_⟩
      rw [Dorigin, Aor, if_neg (by omega)]
      exact PK.rd hI KF.rfl'
set_option maxRecDepth 20000 in
set_option maxHeartbeats 1000000 in
theorem r_origin (l : Launch) (g h : jH) (t i w : Int) (hI0 : IC g h t) (hi : jr i) (hw9 : jr w) : cI l 256 [.ref 388, .int (jI i), .int (jI w)] h (PRF (Dorigin (Tz h) i w)) := by
  have i1 := hi.1
  have i2 := hi.2
  have w1 := hw9.1
  have w2 := hw9.2
  refine cI.of rfl rfl ?_
  refine tl_aload_n rfl rfl ?_
  refine tl_iconst rfl ?_
  refine tl_puti (c := 12) (k9 := 0) rfl rfl rfl rfl ?_
  have hI := hI0.z
  change jT _ _ _ _ _ (Tz h) _
  generalize Tz h = m at hI ⊢
  have ok := hI.ok
  have hT := hI.rt
  have q0 := hT.1
  have k3 := ok.2.2.1
  have k4 := ok.2.2.2.1
  refine tl_iload_n rfl rfl ?_
  refine tl_i2l rfl ⟨by omega, by omega⟩ ?_
  refine tl_lconst (z := 0) rfl rfl ?_
  show jT _ _ 8 _ _ _ _
  refine tl_aload_n rfl rfl ?_
  refine tl_iconst rfl ?_
  refine tl_v1i (c9 := 12) (c_sizeOf l _ 1 (by decide) (by decide)) rfl rfl rfl rfl rfl (Nat.le_of_ble_eq_true rfl) (fun z1 h1 p1 => ?_)
  obtain ⟨q1, rfl⟩ := p1
  have q1 := q1.symm
  subst q1
  rw [show (5 + 65 * 1 : Int).toNat = 70 from rfl]
  refine tl_i2l rfl ⟨by omega, by omega⟩ ?_
  refine tl_lconst (z := 1) rfl rfl ?_
  refine tl_lsub rfl ?_
  refine tl_s3i (c_in l _ _ _ _ ⟨by omega, by omega⟩ ⟨by omega, by omega⟩ ⟨by omega, by omega⟩) rfl rfl rfl (Nat.le_of_ble_eq_true rfl) (fun z2 h2 p2 => ?_)
  obtain ⟨q2, p2⟩ := p2
  have q2 := q2.symm
  subst q2
  have b2 : z2 = 0 ∨ z2 = 1 := by rw [p2]; split <;> omega
  show jT _ _ 19 _ _ _ _
  refine tl_if_eq (tgt := 32) rfl rfl ⟨by omega, by omega⟩ (fun c1 => ?_) (fun c1 => ?_)
  · skip
    refine tl_iconst rfl ?_
    refine tl_iret rfl ?_
    -- leaf 0 at 33
    refine ⟨_, rfl, ?_⟩
    rw [Dorigin, Aor, if_neg (by omega)]
    exact PRF.rd RF.rfl'
  · show jT _ _ 22 _ _ _ _
    refine tl_iload_n rfl rfl ?_
    refine tl_i2l rfl ⟨by omega, by omega⟩ ?_
    refine tl_lconst (z := 0) rfl rfl ?_
    refine tl_lconst (z := 1) rfl rfl ?_
    show jT _ _ 26 _ _ _ _
    refine tl_s3i (c_in l _ _ _ _ ⟨by omega, by omega⟩ ⟨by omega, by omega⟩ ⟨by omega, by omega⟩) rfl rfl rfl (Nat.le_of_ble_eq_true rfl) (fun z3 h3 p3 => ?_)
    obtain ⟨q3, p3⟩ := p3
    have q3 := q3.symm
    subst q3
    have b3 : z3 = 0 ∨ z3 = 1 := by rw [p3]; split <;> omega
    refine tl_if_ne (tgt := 34) rfl rfl ⟨by omega, by omega⟩ (fun c2 => ?_) (fun c2 => ?_)
    · skip
      refine tl_aload_n rfl rfl ?_
      refine tl_aload_n rfl rfl ?_
      refine tl_getr (c := 12) (k9 := 3) (b := 390) rfl rfl rfl rfl ?_
      refine tl_iconst rfl ?_
      refine tl_iald (n := 1362) rfl rfl rfl (by omega) (by omega) ?_
      rw [show Int.toNat 0 = 0 from rfl]
      show jT _ _ 41 _ _ _ _
      refine tl_v1v (c9 := 12) (r_layOrigins l m (m 390) rfl ok hT (m 390 0) (by omega) (by omega)) rfl rfl rfl rfl rfl (Nat.le_of_ble_eq_true rfl) (fun h1 p1 => ?_)
      obtain ⟨⟨g1, g2⟩, ⟨g3, g4⟩, fr, fr2⟩ := p1
      have rf : RF m h1 := RF.of (fun x hx => fr x (by omega)) (fun q hq => fr2 q (by omega))
      have g5 := g4 i.toNat (by omega)
      refine tl_iload_n rfl rfl ?_
      refine tl_if_ne (tgt := 57) rfl rfl ⟨by omega, by omega⟩ (fun c3 => ?_) (fun c3 => ?_)
      · skip
        refine tl_aload_n rfl rfl ?_
        refine tl_getr (c := 12) (k9 := 24) (b := 404) rfl rfl rfl rfl ?_
        refine tl_iload_n rfl rfl ?_
        refine tl_iald (n := 64) rfl rfl rfl (by omega) (by omega) ?_
        rw [g5.2]
        show jT _ _ 63 _ _ _ _
        refine tl_iret rfl ?_
        -- leaf 1 at 63
        refine ⟨_, rfl, ?_⟩
        rw [Dorigin, Aor, if_pos (by omega)]
        first | rw [show w.toNat = 0 by omega] | rw [show w.toNat = 1 by omega]
        exact PRF.rd rf
      · show jT _ _ 48 _ _ _ _
        refine tl_aload_n rfl rfl ?_
        refine tl_getr (c := 12) (k9 := 23) (b := 403) rfl rfl rfl rfl ?_
        refine tl_iload_n rfl rfl ?_
        refine tl_iald (n := 64) rfl rfl rfl (by omega) (by omega) ?_
        rw [g5.1]
        refine tl_goto (tgt := 63) rfl rfl ?_
        refine tl_iret rfl ?_
        -- leaf 2 at 63
        refine ⟨_, rfl, ?_⟩
        rw [Dorigin, Aor, if_pos (by omega)]
        first | rw [show w.toNat = 0 by omega] | rw [show w.toNat = 1 by omega]
        exact PRF.rd rf
    · show jT _ _ 32 _ _ _ _
      show jT _ _ 32 _ _ _ _
      refine tl_iconst rfl ?_
      refine tl_iret rfl ?_
      -- leaf 3 at 33
      refine ⟨_, rfl, ?_⟩
      rw [Dorigin, Aor, if_neg (by omega)]
      exact PRF.rd RF.rfl'
