/-! the anchors of the walked file: fillOrigins, find; findAnchors of the whole -/
theorem oadd_a {h : jH} {o a b n i : Nat} {x v z : Int} (hO : OrS o a b) : hs (hs (hs h a n x) b n v) o 2 z a i = if i = n then x else h a i := by
  rw [hs_o (fun e => hO.oa e.symm), hs_o hO.2.2.2.2.2.2.2]
  by_cases c : i = n
  · subst c; rw [hs_s, if_pos rfl]
  · rw [hs_k c, if_neg c]
theorem oadd_b {h : jH} {o a b n i : Nat} {x v z : Int} (hO : OrS o a b) : hs (hs (hs h a n x) b n v) o 2 z b i = if i = n then v else h b i := by
  rw [hs_o (fun e => hO.ob e.symm)]
  by_cases c : i = n
  · subst c; rw [hs_s, if_pos rfl]
  · rw [hs_k c, if_neg c, hs_o (fun e => hO.2.2.2.2.2.2.2 e.symm)]
theorem ochg_a {h : jH} {o a b n i : Nat} {x v : Int} (hO : OrS o a b) : hs (hs h a n x) b n v a i = if i = n then x else h a i := by
  rw [hs_o hO.2.2.2.2.2.2.2]
  by_cases c : i = n
  · subst c; rw [hs_s, if_pos rfl]
  · rw [hs_k c, if_neg c]
theorem ochg_b {h : jH} {o a b n i : Nat} {x v : Int} (hO : OrS o a b) : hs (hs h a n x) b n v b i = if i = n then v else h b i := by
  by_cases c : i = n
  · subst c; rw [hs_s, if_pos rfl]
  · rw [hs_k c, if_neg c, hs_o (fun e => hO.2.2.2.2.2.2.2 e.symm)]
theorem og_s {R : Nat → Int} {T : jH} {a r i : Nat} : ogF R T (a + 1) r i = if T 0 a - T 4 a ≤ (i : Int) ∧ (i : Int) < aE T a + T 3 a then (if r = 0 then (i : Int) + aW T a else (R (71 + i) - R (6 + ((i : Int) + aW T a).toNat)) % 256) else ogF R T a r i := rfl
set_option maxRecDepth 20000 in
set_option maxHeartbeats 1000000 in
theorem k_fill_A (l : Launch) (h : jH) (R : Nat → Int) (hR : RS h 1 R) (T : jH) (n : Nat) (ti : TI R T n) (hn : h 319 5 = (n : Int)) (tk : ∀ r, r < 5 → ∀ i, i < n → h (320 + r) i = T r i) (P : Option Value → jH → Prop) (hx : ∀ mem, (mem 325 2 = R 70 ∧ (∀ i : Nat, (i : Int) < R 70 → mem 326 i = ogF R T 0 0 i ∧ mem 327 i = ogF R T 0 1 i) ∧ ∀ x, (x < 325 ∨ 327 < x) → mem x = h x) → jT l 9 43 [some (.ref 319), some (.ref 1), some (.int (jI (R 70))), none, none, none, none] [] mem P) : ∀ (m : Nat) (k : Nat) (mem : jH), (R 70).toNat - k < m → ((k : Int) ≤ R 70 ∧ mem 325 2 = (k : Int) ∧ (∀ i : Nat, i < k → mem 326 i = ogF R T 0 0 i ∧ mem 327 i = ogF R T 0 1 i) ∧ ∀ x, (x < 325 ∨ 327 < x) → mem x = h x) → jT l 9 10 [some (.ref 319), some (.ref 1), some (.int (jI ((k : Int)))), none, none, none, none] [] mem P := by
  have ok := hR.ok
  obtain ⟨k1, k2, k3, k4, k5, k6, k7⟩ := ok
  intro m
  induction m with
  | zero => intro k mem hk; omega
  | succ m ih =>
    intro k mem hk hi
    obtain ⟨i0, i1, i2, fr⟩ := hi
    have hRm : RS mem 1 R := hR.of (fun x x1 x2 => fr x (by omega))
    refine tl_iload_n rfl rfl ?_
    refine tl_aload_n rfl rfl ?_
    refine tl_getr (c := 9) (k9 := 1) (b := 4) rfl rfl rfl rfl ?_
    refine tl_geti (c := 8) (k9 := 1) rfl rfl rfl ?_
    rw [hRm.o70]
    refine tl_icmp_ge (tgt := 43) rfl rfl ⟨by omega, by omega⟩ ⟨by omega, by omega⟩ (fun c1 => ?_) (fun c1 => ?_)
    · skip
      show jT _ _ 43 _ _ _ _
      -- leaf 0 at 43
      have e : (k : Int) = R 70 := by omega
      rw [e] at i1 ⊢
      exact hx mem ⟨i1, fun i hi => i2 i (by omega), fr⟩
    · show jT _ _ 21 _ _ _ _
      refine tl_aload_n rfl rfl ?_
      show jT _ _ 22 _ _ _ _
      refine tl_getr (c := 0) (k9 := 6) (b := 325) rfl rfl rfl rfl ?_
      refine tl_iconst rfl ?_
      refine tl_aload_n rfl rfl ?_
      refine tl_getr (c := 9) (k9 := 1) (b := 4) rfl rfl rfl rfl ?_
      refine tl_iload_n rfl rfl ?_
      refine tl_v1i (c9 := 8) (k_nget l mem R hRm ((k : Int)) ⟨by omega, by omega⟩) rfl rfl rfl rfl rfl (Nat.le_of_ble_eq_true rfl) (fun z1 h1 p1 => ?_)
      obtain ⟨q1, p1⟩ := p1
      have q1 := q1.symm
      subst q1
      rw [if_pos (by omega)] at p1
      have y1 := k6 ((k : Int)).toNat (by omega)
      have ya1 := y1.1
      have yb1 := y1.2
      refine tl_v2v (c9 := 3) (c_Or_add l Or325 mem (-1) z1 (by omega) (by omega)) rfl rfl rfl rfl rfl (Nat.le_of_ble_eq_true rfl) (fun h2 p2 => ?_)
      rw [i1, Int.toNat_natCast] at p2
      show jT _ _ 37 _ _ _ _
      refine tl_iinc rfl rfl rfl ?_
      refine tl_goto (tgt := 10) rfl rfl ?_
      show jT _ _ 10 _ _ _ _
      -- leaf 1 at 10
      refine ih (k + 1) h2 (by omega) ⟨by omega, by rw [p2, hs_s]; omega, fun i hi => ?_, fun x hx => by rw [p2, hs_O (by omega), hs_O (by omega), hs_O (by omega)]; exact fr x hx⟩
      rw [p2, oadd_a Or325, oadd_b Or325]
      by_cases c : i = k
      · subst c
        rw [if_pos rfl, if_pos rfl, p1, Int.toNat_natCast]; exact ⟨rfl, rfl⟩
      · rw [if_neg c, if_neg c]; exact i2 i (by omega)
set_option maxRecDepth 20000 in
set_option maxHeartbeats 1000000 in
theorem k_fill_C (l : Launch) (h : jH) (R : Nat → Int) (hR : RS h 1 R) (T : jH) (n : Nat) (ti : TI R T n) (hn : h 319 5 = (n : Int)) (tk : ∀ r, r < 5 → ∀ i, i < n → h (320 + r) i = T r i) (a : Nat) (ha : a < n) (P : Option Value → jH → Prop) (hx : ∀ mem y5 y6, (mem 325 2 = R 70 ∧ (∀ i : Nat, (i : Int) < R 70 → mem 326 i = ogF R T (a + 1) 0 i ∧ mem 327 i = ogF R T (a + 1) 1 i) ∧ ∀ x, (x < 325 ∨ 327 < x) → mem x = h x) → jT l 9 165 [some (.ref 319), some (.ref 1), some (.int (jI ((a : Int)))), some (.int (jI (aW T a))), some (.int (jI ((aE T a + T 3 a)))), y5, y6] [] mem P) : ∀ (m : Nat) (k : Nat) (mem : jH) (y6 : Option Value), ((aE T a + T 3 a) - (T 0 a - T 4 a)).toNat - k < m → ((k : Int) ≤ (aE T a + T 3 a) - (T 0 a - T 4 a) ∧ mem 325 2 = R 70 ∧ (∀ i : Nat, (i : Int) < R 70 → mem 326 i = (if (T 0 a - T 4 a) ≤ (i : Int) ∧ (i : Int) < (T 0 a - T 4 a) + (k : Int) then ogF R T (a + 1) 0 i else ogF R T a 0 i) ∧ mem 327 i = (if (T 0 a - T 4 a) ≤ (i : Int) ∧ (i : Int) < (T 0 a - T 4 a) + (k : Int) then ogF R T (a + 1) 1 i else ogF R T a 1 i)) ∧ ∀ x, (x < 325 ∨ 327 < x) → mem x = h x) → jT l 9 110 [some (.ref 319), some (.ref 1), some (.int (jI ((a : Int)))), some (.int (jI (aW T a))), some (.int (jI ((aE T a + T 3 a)))), some (.int (jI ((T 0 a - T 4 a) + (k : Int)))), y6] [] mem P := by
  have ok := hR.ok
  obtain ⟨k1, k2, k3, k4, k5, k6, k7⟩ := ok
  have ok := hR.ok
  have n33 := ti.1.n33 ok
  have bd := ti.1.bds ok ha
  have ll := ti.1.lim ha
  obtain ⟨⟨r1, r2⟩, ⟨r3, r4⟩, r5⟩ := ti.2 a ha
  have r6 : 0 ≤ T 0 a - T 4 a := by
    by_cases c : a = 0
    · rw [if_pos c] at r4; exact r4
    · rw [if_neg c] at r4
      have := (ti.1.bds ok (i := a - 1) (by omega)).2.2.2.1
      omega
  intro m
  induction m with
  | zero => intro k mem y6 hk; omega
  | succ m ih =>
    intro k mem y6 hk hi
    obtain ⟨i0, i1, i2, fr⟩ := hi
    have hRm : RS mem 1 R := hR.of (fun x x1 x2 => fr x (by omega))
    refine tl_iload rfl rfl ?_
    refine tl_iload rfl rfl ?_
    refine tl_icmp_ge (tgt := 165) rfl rfl ⟨by omega, by omega⟩ ⟨by omega, by omega⟩ (fun c1 => ?_) (fun c1 => ?_)
    · skip
      show jT _ _ 165 _ _ _ _
      -- leaf 0 at 165
      have e : (k : Int) = (aE T a + T 3 a) - (T 0 a - T 4 a) := by omega
      refine hx mem _ _ ⟨i1, fun i hi => ?_, fr⟩
      have q := i2 i hi
      rw [show (T 0 a - T 4 a) + (k : Int) = (aE T a + T 3 a) by omega] at q
      by_cases c : (T 0 a - T 4 a) ≤ (i : Int) ∧ (i : Int) < (aE T a + T 3 a)
      · rw [if_pos c, if_pos c] at q; exact q
      · rw [if_neg c, if_neg c] at q
        rw [og_s, og_s, if_neg c, if_neg c]; exact q
    · show jT _ _ 117 _ _ _ _
      have op := r5 ((T 0 a - T 4 a) + (k : Int)) (by omega) (by omega)
      have ot := opn_t op
      refine tl_aload_n rfl rfl ?_
      refine tl_getr (c := 9) (k9 := 1) (b := 4) rfl rfl rfl rfl ?_
      refine tl_iload rfl rfl ?_
      show jT _ _ 123 _ _ _ _
      refine tl_v1i (c9 := 8) (k_nget l mem R hRm ((T 0 a - T 4 a) + (k : Int)) ⟨by omega, by omega⟩) rfl rfl rfl rfl rfl (Nat.le_of_ble_eq_true rfl) (fun z1 h1 p1 => ?_)
      obtain ⟨q1, p1⟩ := p1
      have q1 := q1.symm
      subst q1
      rw [if_pos (by omega)] at p1
      have y1 := k6 ((T 0 a - T 4 a) + (k : Int)).toNat (by omega)
      have ya1 := y1.1
      have yb1 := y1.2
      refine tl_aload_n rfl rfl ?_
      refine tl_getr (c := 9) (k9 := 0) (b := 2) rfl rfl rfl rfl ?_
      refine tl_iload rfl rfl ?_
      refine tl_iload_n rfl rfl ?_
      refine tl_iadd rfl ?_
      refine tl_v1i (c9 := 8) (k_oget l mem R hRm ((T 0 a - T 4 a) + (k : Int) + aW T a) ⟨by omega, by omega⟩) rfl rfl rfl rfl rfl (Nat.le_of_ble_eq_true rfl) (fun z2 h2 p2 => ?_)
      obtain ⟨q2, p2⟩ := p2
      have q2 := q2.symm
      subst q2
      rw [if_pos (by omega)] at p2
      have y2 := k5 ((T 0 a - T 4 a) + (k : Int) + aW T a).toNat (by omega)
      have ya2 := y2.1
      have yb2 := y2.2
      show jT _ _ 137 _ _ _ _
      refine tl_isub rfl ?_
      refine tl_sipush rfl rfl ?_
      refine tl_iand rfl (jI_and255 _) ?_
      refine tl_istore rfl (Nat.le_of_ble_eq_true rfl) rfl ?_
      refine tl_aload_n rfl rfl ?_
      refine tl_getr (c := 0) (k9 := 6) (b := 325) rfl rfl rfl rfl ?_
      refine tl_iload rfl rfl ?_
      show jT _ _ 150 _ _ _ _
      refine tl_iload rfl rfl ?_
      refine tl_iload_n rfl rfl ?_
      refine tl_iadd rfl ?_
      refine tl_iload rfl rfl ?_
      refine tl_v3v (c9 := 3) (c_Or_change l Or325 mem ((T 0 a - T 4 a) + (k : Int)) ((T 0 a - T 4 a) + (k : Int) + aW T a) ((z1 - z2) % 256) (by omega) (by omega) (by omega)) rfl rfl rfl rfl rfl (Nat.le_of_ble_eq_true rfl) (fun h3 p3 => ?_)
      refine tl_iinc rfl rfl rfl ?_
      refine tl_goto (tgt := 110) rfl rfl ?_
      show jT _ _ 110 _ _ _ _
      -- leaf 1 at 110
      refine jT.loc ?_ (ih (k + 1) h3 (some (.int (jI ((z1 - z2) % 256)))) (by omega) ⟨by omega, by rw [p3, hs_o (by decide), hs_o (by decide)]; exact i1, fun i hi => ?_, fun x hx => by rw [p3, hs_O (by omega), hs_O (by omega)]; exact fr x hx⟩)
      · rw [show (T 0 a - T 4 a) + ((k + 1 : Nat) : Int) = (T 0 a - T 4 a) + (k : Int) + 1 by omega]
        rfl
      · rw [p3]
        by_cases c : i = ((T 0 a - T 4 a) + (k : Int)).toNat
        · rw [ochg_a Or325, ochg_b Or325, if_pos c, if_pos c, if_pos (by omega), if_pos (by omega), og_s, og_s, if_pos (by omega), if_pos rfl, if_pos (by omega), if_neg (by omega), c, p1, p2, show ((((T 0 a - T 4 a) + (k : Int)).toNat : Nat) : Int) = (T 0 a - T 4 a) + (k : Int) by omega]
          exact ⟨rfl, rfl⟩
        · rw [ochg_a Or325, ochg_b Or325, if_neg c, if_neg c]
          have q := i2 i hi
          by_cases d : (T 0 a - T 4 a) ≤ (i : Int) ∧ (i : Int) < (T 0 a - T 4 a) + (k : Int)
          · rw [if_pos d, if_pos d] at q; rw [if_pos (by omega), if_pos (by omega)]; exact q
          · rw [if_neg d, if_neg d] at q; rw [if_neg (by omega), if_neg (by omega)]; exact q
set_option maxRecDepth 20000 in
set_option maxHeartbeats 1000000 in
theorem k_fill_B (l : Launch) (h : jH) (R : Nat → Int) (hR : RS h 1 R) (T : jH) (n : Nat) (ti : TI R T n) (hn : h 319 5 = (n : Int)) (tk : ∀ r, r < 5 → ∀ i, i < n → h (320 + r) i = T r i) (P : Option Value → jH → Prop) (hP : ∀ mem, (mem 325 2 = R 70 ∧ (∀ i : Nat, (i : Int) < R 70 → mem 326 i = ogF R T n 0 i ∧ mem 327 i = ogF R T n 1 i) ∧ ∀ x, (x < 325 ∨ 327 < x) → mem x = h x) → P none mem) : ∀ (m : Nat) (a : Nat) (mem : jH) (y3 : Option Value) (y4 : Option Value) (y5 : Option Value) (y6 : Option Value), n - a < m → (a ≤ n ∧ mem 325 2 = R 70 ∧ (∀ i : Nat, (i : Int) < R 70 → mem 326 i = ogF R T a 0 i ∧ mem 327 i = ogF R T a 1 i) ∧ ∀ x, (x < 325 ∨ 327 < x) → mem x = h x) → jT l 9 45 [some (.ref 319), some (.ref 1), some (.int (jI ((a : Int)))), y3, y4, y5, y6] [] mem P := by
  have ok := hR.ok
  obtain ⟨k1, k2, k3, k4, k5, k6, k7⟩ := ok
  have ok := hR.ok
  have n33 := ti.1.n33 ok
  intro m
  induction m with
  | zero => intro a mem y3 y4 y5 y6 hk; omega
  | succ m ih =>
    intro a mem y3 y4 y5 y6 hk hi
    obtain ⟨i0, i1, i2, fr⟩ := hi
    refine tl_iload_n rfl rfl ?_
    refine tl_aload_n rfl rfl ?_
    refine tl_geti (c := 0) (k9 := 5) rfl rfl rfl ?_
    rw [fr 319 (by omega), hn]
    refine tl_icmp_ge (tgt := 171) rfl rfl ⟨by omega, by omega⟩ ⟨by omega, by omega⟩ (fun c1 => ?_) (fun c1 => ?_)
    · skip
      refine tl_ret rfl ?_
      -- leaf 0 at 171
      first
        | (exfalso; omega)
        | (have e : a = n := by omega
           rw [e] at i2
           exact hP mem ⟨i1, i2, fr⟩)
    · show jT _ _ 53 _ _ _ _
      refine tl_iload_n rfl rfl ?_
      show jT _ _ 54 _ _ _ _
      refine tl_bipush rfl rfl ?_
      refine tl_icmp_ge (tgt := 171) rfl rfl ⟨by omega, by omega⟩ ⟨by omega, by omega⟩ (fun c2 => ?_) (fun c2 => ?_)
      · skip
        refine tl_ret rfl ?_
        -- leaf 1 at 171
        first
          | (exfalso; omega)
          | (have e : a = n := by omega
             rw [e] at i2
             exact hP mem ⟨i1, i2, fr⟩)
      · show jT _ _ 59 _ _ _ _
        refine tl_aload_n rfl rfl ?_
        refine tl_getr (c := 0) (k9 := 1) (b := 321) rfl rfl rfl rfl ?_
        refine tl_iload_n rfl rfl ?_
        refine tl_iald (n := 64) rfl rfl rfl (by omega) (by omega) ?_
        rw [Int.toNat_natCast, fr 321 (by omega), show h 321 a = T 1 a from tk 1 (by omega) a (by omega)]
        show jT _ _ 65 _ _ _ _
        refine tl_aload_n rfl rfl ?_
        refine tl_getr (c := 0) (k9 := 0) (b := 320) rfl rfl rfl rfl ?_
        refine tl_iload_n rfl rfl ?_
        refine tl_iald (n := 64) rfl rfl rfl (by omega) (by omega) ?_
        rw [Int.toNat_natCast, fr 320 (by omega), show h 320 a = T 0 a from tk 0 (by omega) a (by omega)]
        refine tl_isub rfl ?_
        refine tl_istore_n rfl (Nat.le_of_ble_eq_true rfl) rfl ?_
        refine tl_aload_n rfl rfl ?_
        show jT _ _ 74 _ _ _ _
        refine tl_getr (c := 0) (k9 := 0) (b := 320) rfl rfl rfl rfl ?_
        refine tl_iload_n rfl rfl ?_
        refine tl_iald (n := 64) rfl rfl rfl (by omega) (by omega) ?_
        rw [Int.toNat_natCast, fr 320 (by omega), show h 320 a = T 0 a from tk 0 (by omega) a (by omega)]
        refine tl_aload_n rfl rfl ?_
        refine tl_getr (c := 0) (k9 := 2) (b := 322) rfl rfl rfl rfl ?_
        refine tl_iload_n rfl rfl ?_
        refine tl_iald (n := 64) rfl rfl rfl (by omega) (by omega) ?_
        rw [Int.toNat_natCast, fr 322 (by omega), show h 322 a = T 2 a from tk 2 (by omega) a (by omega)]
        show jT _ _ 85 _ _ _ _
        refine tl_iadd rfl ?_
        refine tl_aload_n rfl rfl ?_
        refine tl_getr (c := 0) (k9 := 3) (b := 323) rfl rfl rfl rfl ?_
        refine tl_iload_n rfl rfl ?_
        refine tl_iald (n := 64) rfl rfl rfl (by omega) (by omega) ?_
        rw [Int.toNat_natCast, fr 323 (by omega), show h 323 a = T 3 a from tk 3 (by omega) a (by omega)]
        refine tl_iadd rfl ?_
        refine tl_istore rfl (Nat.le_of_ble_eq_true rfl) rfl ?_
        show jT _ _ 95 _ _ _ _
        refine tl_aload_n rfl rfl ?_
        refine tl_getr (c := 0) (k9 := 0) (b := 320) rfl rfl rfl rfl ?_
        refine tl_iload_n rfl rfl ?_
        refine tl_iald (n := 64) rfl rfl rfl (by omega) (by omega) ?_
        rw [Int.toNat_natCast, fr 320 (by omega), show h 320 a = T 0 a from tk 0 (by omega) a (by omega)]
        refine tl_aload_n rfl rfl ?_
        refine tl_getr (c := 0) (k9 := 4) (b := 324) rfl rfl rfl rfl ?_
        refine tl_iload_n rfl rfl ?_
        show jT _ _ 106 _ _ _ _
        refine tl_iald (n := 64) rfl rfl rfl (by omega) (by omega) ?_
        rw [Int.toNat_natCast, fr 324 (by omega), show h 324 a = T 4 a from tk 4 (by omega) a (by omega)]
        refine tl_isub rfl ?_
        refine tl_istore rfl (Nat.le_of_ble_eq_true rfl) rfl ?_
        show jT _ _ 110 _ _ _ _
        -- leaf 2 at 110
        have ha : a < n := by omega
        have rr := (ti.2 a ha)
        refine jT.loc ?_ (k_fill_C l h R hR T n ti hn tk a ha P (fun mem2 y5 y6 hj => ?_) _ 0 mem y6 (Nat.lt_succ_self _) ⟨?_, i1, fun i hi => ?_, fr⟩)
        · rw [show (T 0 a - T 4 a) + ((0 : Nat) : Int) = (T 0 a - T 4 a) by omega]
          rfl
        · skip
          refine tl_iinc rfl rfl rfl ?_
          refine tl_goto (tgt := 45) rfl rfl ?_
          show jT _ _ 45 _ _ _ _
          -- leaf 0 at 45
          exact ih (a + 1) mem2 _ _ _ _ (by omega) ⟨by omega, hj⟩
        · have := ti.1.bds ok ha; omega
        · rw [if_neg (by omega), if_neg (by omega)]; exact i2 i hi
set_option maxRecDepth 20000 in
set_option maxHeartbeats 1000000 in
theorem k_fill (l : Launch) (h : jH) (R : Nat → Int) (hR : RS h 1 R) (T : jH) (n : Nat) (ti : TI R T n) (hn : h 319 5 = (n : Int)) (tk : ∀ r, r < 5 → ∀ i, i < n → h (320 + r) i = T r i) : cV l 9 [.ref 319, .ref 1] h (fun h' => h' 325 2 = R 70 ∧ (∀ i : Nat, (i : Int) < R 70 → h' 326 i = ogF R T n 0 i ∧ h' 327 i = ogF R T n 1 i) ∧ ∀ x, (x < 325 ∨ 327 < x) → h' x = h x) := by
  have ok := hR.ok
  obtain ⟨k1, k2, k3, k4, k5, k6, k7⟩ := ok
  refine cV.of rfl rfl ?_
  refine tl_aload_n rfl rfl ?_
  refine tl_getr (c := 0) (k9 := 6) (b := 325) rfl rfl rfl rfl ?_
  refine tl_iconst rfl ?_
  refine tl_puti (c := 3) (k9 := 2) rfl rfl rfl rfl ?_
  refine tl_iconst rfl ?_
  refine tl_istore_n rfl (Nat.le_of_ble_eq_true rfl) rfl ?_
  show jT _ _ 10 _ _ _ _
  -- leaf 0 at 10
  refine k_fill_A l h R hR T n ti hn tk _ (fun mem hi => ?_) _ 0 _ (Nat.lt_succ_self _) ⟨by omega, hs_s, fun i hi => by omega, fun x hx => hs_O (by omega)⟩
  refine tl_iconst rfl ?_
  refine tl_istore_n rfl (Nat.le_of_ble_eq_true rfl) rfl ?_
  show jT _ _ 45 _ _ _ _
  -- leaf 0 at 45
  exact k_fill_B l h R hR T n ti hn tk _ (fun mem2 hj => ⟨rfl, hj⟩) _ 0 mem _ _ _ _ (Nat.lt_succ_self _) ⟨Nat.zero_le _, hi⟩
set_option maxRecDepth 20000 in
set_option maxHeartbeats 1000000 in
theorem k_find_A (l : Launch) (h : jH) (R : Nat → Int) (hR : RS h 1 R) (hRt : Rt R) (lst : Int) (T : jH) (n : Nat) (nx : Int) (ci : CI R T n nx) (P : Option Value → jH → Prop) (hx : ∀ mem, ((mem 319 5 = (n : Int) ∧ mem 319 7 = R 2 ∧ mem 319 8 = R 3 ∧ (∀ x, (x < 319 ∨ 327 < x) → mem x = h x)) ∧ ∀ r, r < 5 → ∀ i, i < n → mem (320 + r) i = T1 R T n r i) → jT l 1 94 [some (.ref 319), some (.ref 1), some (.ref 313), some (.ref 311), some (.int (jI (lst))), some (.int (jI (((n : Nat) : Int))))] [] mem P) : ∀ (m : Nat) (k : Nat) (mem : jH), n - k < m → (k ≤ n ∧ (mem 319 5 = (n : Int) ∧ mem 319 7 = R 2 ∧ mem 319 8 = R 3 ∧ (∀ x, (x < 319 ∨ 327 < x) → mem x = h x)) ∧ (∀ r, r < 3 → ∀ i, i < n → mem (320 + r) i = T r i) ∧ ∀ i, i < k → mem 323 i = fw R T n i ∧ mem 324 i = bk R T i) → jT l 1 35 [some (.ref 319), some (.ref 1), some (.ref 313), some (.ref 311), some (.int (jI (lst))), some (.int (jI (((k : Nat) : Int))))] [] mem P := by
  have ok := hR.ok
  obtain ⟨k1, k2, k3, k4, k5, k6, k7⟩ := ok
  have ok := hR.ok
  have n33 := ci.n33 ok
  intro m
  induction m with
  | zero => intro k mem hk; omega
  | succ m ih =>
    intro k mem hk hi
    obtain ⟨i0, ⟨b1, b2, b3, fr⟩, i2, i3⟩ := hi
    have hRm : RS mem 1 R := hR.of (fun x x1 x2 => fr x (by omega))
    refine tl_iload rfl rfl ?_
    refine tl_aload_n rfl rfl ?_
    refine tl_geti (c := 0) (k9 := 5) rfl rfl rfl ?_
    rw [b1]
    refine tl_icmp_ge (tgt := 94) rfl rfl ⟨by omega, by omega⟩ ⟨by omega, by omega⟩ (fun c1 => ?_) (fun c1 => ?_)
    · skip
      show jT _ _ 94 _ _ _ _
      -- leaf 0 at 94
      first
        | (exfalso; omega)
        | (have e : k = n := by omega
           rw [e] at i3 ⊢
           refine hx mem ⟨⟨b1, b2, b3, fr⟩, fun r hr i hi => ?_⟩
           rcases (show r < 3 ∨ r = 3 ∨ r = 4 by omega) with c | c | c
           · rw [i2 r c i hi, T1, if_neg (by omega), if_neg (by omega)]
           · subst c; exact (i3 i hi).1
           · subst c; exact (i3 i hi).2)
    · show jT _ _ 44 _ _ _ _
      refine tl_iload rfl rfl ?_
      refine tl_bipush rfl rfl ?_
      show jT _ _ 48 _ _ _ _
      refine tl_icmp_ge (tgt := 94) rfl rfl ⟨by omega, by omega⟩ ⟨by omega, by omega⟩ (fun c2 => ?_) (fun c2 => ?_)
      · skip
        show jT _ _ 94 _ _ _ _
        -- leaf 1 at 94
        first
          | (exfalso; omega)
          | (have e : k = n := by omega
             rw [e] at i3 ⊢
             refine hx mem ⟨⟨b1, b2, b3, fr⟩, fun r hr i hi => ?_⟩
             rcases (show r < 3 ∨ r = 3 ∨ r = 4 by omega) with c | c | c
             · rw [i2 r c i hi, T1, if_neg (by omega), if_neg (by omega)]
             · subst c; exact (i3 i hi).1
             · subst c; exact (i3 i hi).2)
      · show jT _ _ 51 _ _ _ _
        refine tl_aload_n rfl rfl ?_
        refine tl_getr (c := 0) (k9 := 3) (b := 323) rfl rfl rfl rfl ?_
        refine tl_iload rfl rfl ?_
        refine tl_aload_n rfl rfl ?_
        refine tl_aload_n rfl rfl ?_
        refine tl_iload rfl rfl ?_
        show jT _ _ 61 _ _ _ _
        refine tl_v2i (c9 := 0) (k_reachF l mem R hRm b2 b3 hRt T n nx ci b1 (i2 0 (by omega)) (i2 1 (by omega)) (i2 2 (by omega)) k (by omega)) rfl rfl rfl rfl rfl (Nat.le_of_ble_eq_true rfl) (fun z1 h1 p1 => ?_)
        obtain ⟨q1, rfl⟩ := p1
        have q1 := q1.symm
        subst q1
        refine tl_iast (n := 64) rfl rfl rfl (by omega) (by omega) ?_
        refine tl_aload_n rfl rfl ?_
        refine tl_getr (c := 0) (k9 := 4) (b := 324) rfl rfl rfl rfl ?_
        refine tl_iload rfl rfl ?_
        refine tl_iload rfl rfl ?_
        refine tl_if_ne (tgt := 80) rfl rfl ⟨by omega, by omega⟩ (fun c3 => ?_) (fun c3 => ?_)
        · skip
          show jT _ _ 80 _ _ _ _
          refine tl_aload_n rfl rfl ?_
          refine tl_aload_n rfl rfl ?_
          refine tl_iload rfl rfl ?_
          refine tl_v2i (c9 := 0) (k_reachB l (hs mem 323 k (fw R T n k)) R (hRm.of (fun x x1 x2 => hs_O (by omega))) (by rw [hs_o (by decide)]; exact b2) (by rw [hs_o (by decide)]; exact b3) hRt T n nx ci (by rw [hs_o (by decide)]; exact b1) (fun i hi => by rw [hs_o (by decide)]; exact i2 0 (by omega) i hi) (fun i hi => by rw [hs_o (by decide)]; exact i2 1 (by omega) i hi) (fun i hi => by rw [hs_o (by decide)]; exact i2 2 (by omega) i hi) k (by omega) (by omega)) rfl rfl rfl rfl rfl (Nat.le_of_ble_eq_true rfl) (fun z2 h2 p2 => ?_)
          obtain ⟨q2, rfl⟩ := p2
          have q2 := q2.symm
          subst q2
          refine tl_iast (n := 64) rfl rfl rfl (by omega) (by omega) ?_
          refine tl_iinc rfl rfl rfl ?_
          refine tl_goto (tgt := 35) rfl rfl ?_
          show jT _ _ 35 _ _ _ _
          -- leaf 2 at 35
          rw [Int.toNat_natCast]
          first
            | (refine ih (k + 1) (hs (hs mem 323 k (fw R T n k)) 324 k (bk R T k)) (by omega) ⟨by omega, ⟨by rw [hs_o (by decide), hs_o (by decide)]; exact b1, by rw [hs_o (by decide), hs_o (by decide)]; exact b2, by rw [hs_o (by decide), hs_o (by decide)]; exact b3, fun x hx => by rw [hs_O (by omega), hs_O (by omega)]; exact fr x hx⟩, fun r hr i hi => by rw [hs_o (by omega), hs_o (by omega)]; exact i2 r hr i hi, fun i hi => ?_⟩
               rw [hs_o (show (323 : Nat) ≠ 324 by decide)]
               by_cases c : i = k
               · subst c; rw [hs_s, hs_s]; exact ⟨rfl, rfl⟩
               · rw [hs_k c, hs_k c, hs_o (show (324 : Nat) ≠ 323 by decide)]; exact i3 i (by omega))
            | (have e0 : bk R T k = 0 := by rw [bk, if_pos (by omega)]
               have := ih (k + 1) (hs (hs mem 323 k (fw R T n k)) 324 k (bk R T k)) (by omega) ⟨by omega, ⟨by rw [hs_o (by decide), hs_o (by decide)]; exact b1, by rw [hs_o (by decide), hs_o (by decide)]; exact b2, by rw [hs_o (by decide), hs_o (by decide)]; exact b3, fun x hx => by rw [hs_O (by omega), hs_O (by omega)]; exact fr x hx⟩, fun r hr i hi => by rw [hs_o (by omega), hs_o (by omega)]; exact i2 r hr i hi, fun i hi => ?_⟩
               · rw [e0] at this; exact this
               · rw [hs_o (show (323 : Nat) ≠ 324 by decide)]
                 by_cases c : i = k
                 · subst c; rw [hs_s, hs_s]; exact ⟨rfl, rfl⟩
                 · rw [hs_k c, hs_k c, hs_o (show (324 : Nat) ≠ 323 by decide)]; exact i3 i (by omega))
        · show jT _ _ 76 _ _ _ _
          show jT _ _ 76 _ _ _ _
          refine tl_iconst rfl ?_
          refine tl_goto (tgt := 87) rfl rfl ?_
          refine tl_iast (n := 64) rfl rfl rfl (by omega) (by omega) ?_
          refine tl_iinc rfl rfl rfl ?_
          refine tl_goto (tgt := 35) rfl rfl ?_
          show jT _ _ 35 _ _ _ _
          -- leaf 3 at 35
          rw [Int.toNat_natCast]
          first
            | (refine ih (k + 1) (hs (hs mem 323 k (fw R T n k)) 324 k (bk R T k)) (by omega) ⟨by omega, ⟨by rw [hs_o (by decide), hs_o (by decide)]; exact b1, by rw [hs_o (by decide), hs_o (by decide)]; exact b2, by rw [hs_o (by decide), hs_o (by decide)]; exact b3, fun x hx => by rw [hs_O (by omega), hs_O (by omega)]; exact fr x hx⟩, fun r hr i hi => by rw [hs_o (by omega), hs_o (by omega)]; exact i2 r hr i hi, fun i hi => ?_⟩
               rw [hs_o (show (323 : Nat) ≠ 324 by decide)]
               by_cases c : i = k
               · subst c; rw [hs_s, hs_s]; exact ⟨rfl, rfl⟩
               · rw [hs_k c, hs_k c, hs_o (show (324 : Nat) ≠ 323 by decide)]; exact i3 i (by omega))
            | (have e0 : bk R T k = 0 := by rw [bk, if_pos (by omega)]
               have := ih (k + 1) (hs (hs mem 323 k (fw R T n k)) 324 k (bk R T k)) (by omega) ⟨by omega, ⟨by rw [hs_o (by decide), hs_o (by decide)]; exact b1, by rw [hs_o (by decide), hs_o (by decide)]; exact b2, by rw [hs_o (by decide), hs_o (by decide)]; exact b3, fun x hx => by rw [hs_O (by omega), hs_O (by omega)]; exact fr x hx⟩, fun r hr i hi => by rw [hs_o (by omega), hs_o (by omega)]; exact i2 r hr i hi, fun i hi => ?_⟩
               · rw [e0] at this; exact this
               · rw [hs_o (show (323 : Nat) ≠ 324 by decide)]
                 by_cases c : i = k
                 · subst c; rw [hs_s, hs_s]; exact ⟨rfl, rfl⟩
                 · rw [hs_k c, hs_k c, hs_o (show (324 : Nat) ≠ 323 by decide)]; exact i3 i (by omega))
set_option maxRecDepth 20000 in
set_option maxHeartbeats 1000000 in
theorem k_find_B (l : Launch) (h : jH) (R : Nat → Int) (hR : RS h 1 R) (hRt : Rt R) (lst : Int) (U : jH) (n : Nat) (ti : TI R U n) (P : Option Value → jH → Prop) (hx : ∀ mem (k : Nat), ((mem 319 5 = (n : Int) ∧ mem 319 7 = R 2 ∧ mem 319 8 = R 3 ∧ (∀ x, (x < 319 ∨ 327 < x) → mem x = h x)) ∧ ∀ r, r < 5 → ∀ i, i < n → mem (320 + r) i = shs R U (n - 1) r i) → jT l 1 121 [some (.ref 319), some (.ref 1), some (.ref 313), some (.ref 311), some (.int (jI (lst))), some (.int (jI (((k : Nat) : Int))))] [] mem P) : ∀ (m : Nat) (k : Nat) (mem : jH), n - k < m → (k + 1 ≤ n ∧ (mem 319 5 = (n : Int) ∧ mem 319 7 = R 2 ∧ mem 319 8 = R 3 ∧ (∀ x, (x < 319 ∨ 327 < x) → mem x = h x)) ∧ (∀ r, r < 5 → ∀ i, i < n → mem (320 + r) i = shs R U k r i)) → jT l 1 97 [some (.ref 319), some (.ref 1), some (.ref 313), some (.ref 311), some (.int (jI (lst))), some (.int (jI (((k : Nat) : Int))))] [] mem P := by
  have ok := hR.ok
  obtain ⟨k1, k2, k3, k4, k5, k6, k7⟩ := ok
  have ok := hR.ok
  have n33 := ti.1.n33 ok
  intro m
  induction m with
  | zero => intro k mem hk; omega
  | succ m ih =>
    intro k mem hk hi
    obtain ⟨i0, ⟨b1, b2, b3, fr⟩, i2⟩ := hi
    have hRm : RS mem 1 R := hR.of (fun x x1 x2 => fr x (by omega))
    refine tl_iload rfl rfl ?_
    refine tl_iconst rfl ?_
    refine tl_iadd rfl ?_
    refine tl_aload_n rfl rfl ?_
    refine tl_geti (c := 0) (k9 := 5) rfl rfl rfl ?_
    rw [b1]
    refine tl_icmp_ge (tgt := 121) rfl rfl ⟨by omega, by omega⟩ ⟨by omega, by omega⟩ (fun c1 => ?_) (fun c1 => ?_)
    · skip
      show jT _ _ 121 _ _ _ _
      -- leaf 0 at 121
      have e : k = n - 1 := by omega
      rw [e] at i2
      exact hx mem k ⟨⟨b1, b2, b3, fr⟩, i2⟩
    · show jT _ _ 108 _ _ _ _
      show jT _ _ 108 _ _ _ _
      refine tl_aload_n rfl rfl ?_
      refine tl_aload_n rfl rfl ?_
      refine tl_iload rfl rfl ?_
      refine tl_v2v (c9 := 0) (k_share l mem R hRm b2 b3 hRt (shs R U k) n (shs_TI ti k (by omega)) b1 i2 k (by omega)) rfl rfl rfl rfl rfl (Nat.le_of_ble_eq_true rfl) (fun h2 p2 => ?_)
      obtain ⟨g1, g2⟩ := p2
      refine tl_iinc rfl rfl rfl ?_
      refine tl_goto (tgt := 97) rfl rfl ?_
      show jT _ _ 97 _ _ _ _
      -- leaf 1 at 97
      exact ih (k + 1) h2 (by omega) ⟨by omega, ⟨by rw [g2 319 (by omega)]; exact b1, by rw [g2 319 (by omega)]; exact b2, by rw [g2 319 (by omega)]; exact b3, fun x hx => by rw [g2 x (by omega)]; exact fr x hx⟩, g1⟩
set_option maxRecDepth 20000 in
set_option maxHeartbeats 1000000 in
theorem k_find (l : Launch) (h : jH) (R : Nat → Int) (hR : RS h 1 R) (hM : ∀ q : Nat, (q : Int) < R 70 → h 315 q = mtM R (q : Int) (R 5).toNat ∧ h 316 q = mtW R (q : Int) (R 5).toNat) (hT : Rt R) (ht : ∀ k, k < 5 → h 311 k = R k) (lst : Int) (l2 : 2 ≤ lst) (l9 : lst ≤ 9) : cV l 1 [.ref 319, .ref 1, .ref 313, .ref 311, .int (jI lst)] h (fun h' => h' 319 5 = (anN R lst : Int) ∧ (∀ r, r < 5 → ∀ i, i < anN R lst → h' (320 + r) i = anT R lst r i) ∧ h' 325 2 = R 70 ∧ (∀ i : Nat, (i : Int) < R 70 → h' 326 i = ogT R lst 0 i ∧ h' 327 i = ogT R lst 1 i) ∧ ∀ x, (x < 319 ∨ 327 < x) → h' x = h x) := by
  have ok := hR.ok
  obtain ⟨k1, k2, k3, k4, k5, k6, k7⟩ := ok
  have ok := hR.ok
  have ci := chS_CI ok l2 (R 70).toNat (by omega)
  refine cV.of rfl rfl ?_
  refine tl_aload_n rfl rfl ?_
  refine tl_alen (n := 5) rfl (Or.inl rfl) rfl ?_
  refine tl_iconst rfl ?_
  refine tl_icmp_ge (tgt := 7) rfl rfl ⟨by omega, by omega⟩ ⟨by omega, by omega⟩ (fun c1 => ?_) (fun c1 => ?_)
  · skip
    refine tl_aload_n rfl rfl ?_
    refine tl_aload_n rfl rfl ?_
    show jT _ _ 9 _ _ _ _
    refine tl_iconst rfl ?_
    refine tl_iald (n := 5) rfl rfl rfl (by omega) (by omega) ?_
    rw [show Int.toNat 2 = 2 from rfl]
    rw [ht 2 (by omega)]
    refine tl_puti (c := 0) (k9 := 7) rfl rfl rfl rfl ?_
    refine tl_aload_n rfl rfl ?_
    refine tl_aload_n rfl rfl ?_
    refine tl_iconst rfl ?_
    refine tl_iald (n := 5) rfl rfl rfl (by omega) (by omega) ?_
    rw [show Int.toNat 3 = 3 from rfl]
    rw [hs_o (by decide), ht 3 (by omega)]
    show jT _ _ 18 _ _ _ _
    refine tl_puti (c := 0) (k9 := 8) rfl rfl rfl rfl ?_
    refine tl_aload_n rfl rfl ?_
    refine tl_aload_n rfl rfl ?_
    refine tl_aload_n rfl rfl ?_
    refine tl_iload rfl rfl ?_
    refine tl_aload_n rfl rfl ?_
    refine tl_iconst rfl ?_
    show jT _ _ 28 _ _ _ _
    refine tl_iald (n := 5) rfl rfl rfl (by omega) (by omega) ?_
    rw [show Int.toNat 1 = 1 from rfl]
    rw [hs_o (by decide), hs_o (by decide), ht 1 (by omega)]
    refine tl_v4v (c9 := 0) (k_choose l _ R (hR.of (fun x x1 x2 => by rw [hs_O (by omega), hs_O (by omega)])) (fun q hq => by rw [hs_O (by decide), hs_O (by decide), hs_O (by decide), hs_O (by decide)]; exact hM q hq) hT lst l2 l9) rfl rfl rfl rfl rfl (Nat.le_of_ble_eq_true rfl) (fun h2 p2 => ?_)
    obtain ⟨g1, g2, g3, g4⟩ := p2
    refine tl_iconst rfl ?_
    refine tl_istore rfl (Nat.le_of_ble_eq_true rfl) rfl ?_
    show jT _ _ 35 _ _ _ _
    -- leaf 0 at 35
    refine k_find_A l h R hR hT lst (chS R lst (R 70).toNat).1 (chS R lst (R 70).toNat).2.1 (chS R lst (R 70).toNat).2.2 ci _ (fun mem hi => ?_) _ 0 h2 (Nat.lt_succ_self _) ⟨Nat.zero_le _, ⟨g1, by rw [g4 7 (by decide), hs_k (by decide), hs_s], by rw [g4 8 (by decide), hs_s], fun x hx => by rw [g3 x (by omega), hs_O (by omega), hs_O (by omega)]⟩, g2, fun i hi => by omega⟩
    refine tl_iconst rfl ?_
    refine tl_istore rfl (Nat.le_of_ble_eq_true rfl) rfl ?_
    show jT _ _ 97 _ _ _ _
    -- leaf 0 at 97
    refine k_find_B l h R hR hT lst (T1 R (chS R lst (R 70).toNat).1 (chS R lst (R 70).toNat).2.1) (chS R lst (R 70).toNat).2.1 (T1_TI ok ci) _ (fun mem2 k hj => ?_) _ 0 mem (Nat.lt_succ_self _) ⟨ci.1, hi⟩
    refine tl_aload_n rfl rfl ?_
    refine tl_aload_n rfl rfl ?_
    refine tl_v1v (c9 := 0) (k_fill l mem2 R (hR.of (fun x x1 x2 => hj.1.2.2.2 x (by omega))) (anT R lst) (anN R lst) (an_TI ok l2) hj.1.1 hj.2) rfl rfl rfl rfl rfl (Nat.le_of_ble_eq_true rfl) (fun h5 p5 => ?_)
    obtain ⟨f1, f2, f3⟩ := p5
    refine tl_ret rfl ?_
    -- leaf 0 at 126
    refine ⟨rfl, by rw [f3 319 (by omega)]; exact hj.1.1, fun r hr i hi => by rw [f3 (320 + r) (by omega)]; exact hj.2 r hr i hi, f1, f2, fun x hx => by rw [f3 x (by omega)]; exact hj.1.2.2.2 x hx⟩
  · show jT _ _ 6 _ _ _ _
    refine tl_ret rfl ?_
    -- leaf 1 at 6
    exfalso; omega
set_option maxRecDepth 20000 in
set_option maxHeartbeats 1000000 in
theorem k_findAnchors (l : Launch) (h : jH) (R : Nat → Int) (hR : RS h 1 R) (hT : Rt R) (ht : ∀ k, k < 5 → h 311 k = R k) : cV l 197 [.ref 0] h (fun h' => h' 319 5 = (anN R (R 0) : Int) ∧ (∀ r, r < 5 → ∀ i, i < anN R (R 0) → h' (320 + r) i = anT R (R 0) r i) ∧ h' 325 2 = R 70 ∧ (∀ i : Nat, (i : Int) < R 70 → h' 326 i = ogT R (R 0) 0 i ∧ h' 327 i = ogT R (R 0) 1 i) ∧ ∀ x, (x < 315 ∨ 327 < x) → h' x = h x) := by
  have q0 := hT.1
  refine cV.of rfl rfl ?_
  refine tl_aload_n rfl rfl ?_
  refine tl_getr (c := 11) (k9 := 10) (b := 313) rfl rfl rfl rfl ?_
  refine tl_aload_n rfl rfl ?_
  refine tl_getr (c := 11) (k9 := 0) (b := 1) rfl rfl rfl rfl ?_
  refine tl_v1v (c9 := 10) (k_matchAll l h R hR) rfl rfl rfl rfl rfl (Nat.le_of_ble_eq_true rfl) (fun h1 p1 => ?_)
  obtain ⟨mr, fr⟩ := p1
  refine tl_aload_n rfl rfl ?_
  show jT _ _ 12 _ _ _ _
  refine tl_getr (c := 11) (k9 := 11) (b := 319) rfl rfl rfl rfl ?_
  refine tl_aload_n rfl rfl ?_
  refine tl_getr (c := 11) (k9 := 0) (b := 1) rfl rfl rfl rfl ?_
  refine tl_aload_n rfl rfl ?_
  refine tl_getr (c := 11) (k9 := 10) (b := 313) rfl rfl rfl rfl ?_
  refine tl_aload_n rfl rfl ?_
  refine tl_getr (c := 11) (k9 := 6) (b := 311) rfl rfl rfl rfl ?_
  show jT _ _ 27 _ _ _ _
  refine tl_aload_n rfl rfl ?_
  refine tl_getr (c := 11) (k9 := 6) (b := 311) rfl rfl rfl rfl ?_
  refine tl_iconst rfl ?_
  refine tl_iald (n := 5) rfl rfl rfl (by omega) (by omega) ?_
  rw [show Int.toNat 0 = 0 from rfl]
  rw [fr 311 (by omega), ht 0 (by omega)]
  refine tl_v4v (c9 := 0) (k_find l h1 R (hR.of (fun x x1 x2 => fr x (by omega))) (fun q hq => ⟨(mr q hq).1, (mr q hq).2.1⟩) hT (fun k hk => by rw [fr 311 (by omega)]; exact ht k hk) (R 0) (by omega) (by omega)) rfl rfl rfl rfl rfl (Nat.le_of_ble_eq_true rfl) (fun h2 p2 => ?_)
  obtain ⟨g1, g2, g3, g4, g5⟩ := p2
  refine tl_ret rfl ?_
  -- leaf 0 at 36
  exact ⟨rfl, g1, g2, g3, g4, fun x hx => by rw [g5 x (by omega)]; exact fr x (by omega)⟩
