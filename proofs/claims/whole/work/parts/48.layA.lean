/-! layAnchors and layOrigins of the reference -/
set_option maxRecDepth 20000 in
set_option maxHeartbeats 1000000 in
theorem r_addAnchor (l : Launch) (h : jH) (n : Nat) (hn : h 388 22 = (n : Int)) (n64 : n < 66) (s p z : Int) : cV l 246 [.ref 388, .int (jI s), .int (jI p), .int (jI z)] h (fun h' => h' = hs (hs (hs (hs h 398 n s) 399 n p) 400 n z) 388 22 ((n + 1 : Nat) : Int)) := by
  refine cV.of rfl rfl ?_
  refine tl_aload_n rfl rfl ?_
  refine tl_getr (c := 12) (k9 := 17) (b := 398) rfl rfl rfl rfl ?_
  refine tl_aload_n rfl rfl ?_
  refine tl_geti (c := 12) (k9 := 22) rfl rfl rfl ?_
  rw [hn]
  refine tl_iload_n rfl rfl ?_
  refine tl_iast (n := 66) rfl rfl rfl (by omega) (by omega) ?_
  show jT _ _ 10 _ _ _ _
  refine tl_aload_n rfl rfl ?_
  refine tl_getr (c := 12) (k9 := 18) (b := 399) rfl rfl rfl rfl ?_
  refine tl_aload_n rfl rfl ?_
  refine tl_geti (c := 12) (k9 := 22) rfl rfl rfl ?_
  rw [hs_o (by decide), hn]
  refine tl_iload_n rfl rfl ?_
  refine tl_iast (n := 66) rfl rfl rfl (by omega) (by omega) ?_
  refine tl_aload_n rfl rfl ?_
  show jT _ _ 21 _ _ _ _
  refine tl_getr (c := 12) (k9 := 19) (b := 400) rfl rfl rfl rfl ?_
  refine tl_aload_n rfl rfl ?_
  refine tl_geti (c := 12) (k9 := 22) rfl rfl rfl ?_
  rw [hs_o (by decide), hs_o (by decide), hn]
  refine tl_iload_n rfl rfl ?_
  refine tl_iast (n := 66) rfl rfl rfl (by omega) (by omega) ?_
  refine tl_aload_n rfl rfl ?_
  refine tl_dup rfl rfl ?_
  show jT _ _ 32 _ _ _ _
  refine tl_geti (c := 12) (k9 := 22) rfl rfl rfl ?_
  rw [hs_o (by decide), hs_o (by decide), hs_o (by decide), hn]
  refine tl_iconst rfl ?_
  refine tl_iadd rfl ?_
  refine tl_puti (c := 12) (k9 := 22) rfl rfl rfl rfl ?_
  refine tl_ret rfl ?_
  -- leaf 0 at 40
  exact ⟨rfl, rfl⟩
set_option maxRecDepth 20000 in
set_option maxHeartbeats 1000000 in
theorem r_alc_lp (l : Launch) (mem : jH) (R : Nat → Int) (e390 : mem 390 = R) (ok : Rok R) (lst : Int) (T : jH) (n : Nat) (k : Nat) (hk7 : (k : Int) < R 70) (hm : mem 388 14 = (mtM R (k : Int) (R 5).toNat)) (aw : -64 ≤ aW T (n - 1) ∧ aW T (n - 1) ≤ 64) (P : Option Value → jH → Prop) (hx : ∀ y, jT l 247 100 [some (.ref 388), some (.int (jI (lst))), some (.int (jI ((k : Int)))), some (.int (jI (aW T (n - 1)))), some (.int (jI (alc R T n (k : Int) (mtM R (k : Int) (R 5).toNat).toNat))), y] [] mem P) : ∀ (m : Nat) (q : Nat), (mtM R (k : Int) (R 5).toNat).toNat - q < m → (q ≤ (mtM R (k : Int) (R 5).toNat).toNat) → jT l 247 58 [some (.ref 388), some (.int (jI (lst))), some (.int (jI ((k : Int)))), some (.int (jI (aW T (n - 1)))), some (.int (jI (alc R T n (k : Int) q))), some (.int (jI ((q : Int))))] [] mem P := by
  have ok9 := ok
  obtain ⟨k1, k2, k3, k4, k5, k6, k7⟩ := ok9
  intro m
  induction m with
  | zero => intro q hk; omega
  | succ m ih =>
    intro q hk hi
    have ab := alc_b (R := R) (T := T) (n := n) (k := (k : Int)) q
    have mb := mt_b ok (i := (k : Int)) (R 5).toNat
    refine tl_iload rfl rfl ?_
    refine tl_aload_n rfl rfl ?_
    refine tl_geti (c := 12) (k9 := 14) rfl rfl rfl ?_
    rw [hm]
    refine tl_icmp_ge (tgt := 100) rfl rfl ⟨by omega, by omega⟩ ⟨by omega, by omega⟩ (fun c1 => ?_) (fun c1 => ?_)
    · skip
      show jT _ _ 100 _ _ _ _
      -- leaf 0 at 100
      have e : q = (mtM R (k : Int) (R 5).toNat).toNat := by omega
      rw [e]
      exact hx _
    · show jT _ _ 67 _ _ _ _
      have mi := (mt_in ok (i := (k : Int)) (k := (R 5).toNat) (by omega)).2.2.1
      refine tl_iload rfl rfl ?_
      refine tl_aload_n rfl rfl ?_
      show jT _ _ 70 _ _ _ _
      refine tl_iload_n rfl rfl ?_
      refine tl_iload rfl rfl ?_
      refine tl_iadd rfl ?_
      refine tl_iload_n rfl rfl ?_
      refine tl_iload rfl rfl ?_
      refine tl_iadd rfl ?_
      refine tl_iload_n rfl rfl ?_
      show jT _ _ 79 _ _ _ _
      refine tl_iadd rfl ?_
      refine tl_v2i (c9 := 12) (r_areAlike l mem R e390 ok ((k : Int) + (q : Int)) ((k : Int) + (q : Int) + aW T (n - 1)) (by omega) (by omega) ⟨by omega, by omega⟩) rfl rfl rfl rfl rfl (Nat.le_of_ble_eq_true rfl) (fun z1 h1 p1 => ?_)
      obtain ⟨q1, rfl⟩ := p1
      have q1 := q1.symm
      subst q1
      have b1 := zb_b (ali R ((k : Int) + (q : Int)) ((k : Int) + (q : Int) + aW T (n - 1)))
      refine tl_if_eq (tgt := 90) rfl rfl ⟨by omega, by omega⟩ (fun c2 => ?_) (fun c2 => ?_)
      · skip
        have ea := zb0 c2
        refine tl_iconst rfl ?_
        refine tl_iadd rfl ?_
        refine tl_istore rfl (Nat.le_of_ble_eq_true rfl) rfl ?_
        refine tl_iinc rfl rfl rfl ?_
        show jT _ _ 97 _ _ _ _
        refine tl_goto (tgt := 58) rfl rfl ?_
        show jT _ _ 58 _ _ _ _
        -- leaf 1 at 58
        have es : alc R T n (k : Int) (q + 1) = alc R T n (k : Int) q + zb (ali R ((k : Int) + (q : Int)) ((k : Int) + (q : Int) + aW T (n - 1))) := rfl
        first
          | (rw [zb_t ea] at es; refine jT.loc ?_ (ih (q + 1) (by omega) (by omega)); rw [es]; rfl)
          | (rw [zb_f ea] at es; refine jT.loc ?_ (ih (q + 1) (by omega) (by omega)); rw [es]; rfl)
      · show jT _ _ 86 _ _ _ _
        have ea := zb1' c2
        refine tl_iconst rfl ?_
        refine tl_goto (tgt := 91) rfl rfl ?_
        refine tl_iadd rfl ?_
        refine tl_istore rfl (Nat.le_of_ble_eq_true rfl) rfl ?_
        refine tl_iinc rfl rfl rfl ?_
        refine tl_goto (tgt := 58) rfl rfl ?_
        show jT _ _ 58 _ _ _ _
        -- leaf 2 at 58
        have es : alc R T n (k : Int) (q + 1) = alc R T n (k : Int) q + zb (ali R ((k : Int) + (q : Int)) ((k : Int) + (q : Int) + aW T (n - 1))) := rfl
        first
          | (rw [zb_t ea] at es; refine jT.loc ?_ (ih (q + 1) (by omega) (by omega)); rw [es]; rfl)
          | (rw [zb_f ea] at es; refine jT.loc ?_ (ih (q + 1) (by omega) (by omega)); rw [es]; rfl)
set_option maxRecDepth 20000 in
set_option maxHeartbeats 1000000 in
theorem r_choose_lp (l : Launch) (h : jH) (R : Nat → Int) (hR : h 390 = R) (ok : Rok R) (hT : Rt R) (lst : Int) (l2 : 2 ≤ lst) (l9 : lst ≤ 9) (P : Option Value → jH → Prop) (hx : ∀ mem y3 y4 y5, (mem 388 22 = ((chS R lst (R 70).toNat).2.1 : Int) ∧ (∀ r, r < 3 → ∀ i, i < (chS R lst (R 70).toNat).2.1 → mem (398 + r) i = (chS R lst (R 70).toNat).1 r i) ∧ (∀ x, (x ≠ 388 ∧ (x < 398 ∨ 402 < x)) → mem x = h x) ∧ ∀ q, (q < 14 ∨ (16 < q ∧ q ≠ 22)) → mem 388 q = h 388 q) → jT l 247 153 [some (.ref 388), some (.int (jI (lst))), some (.int (jI (R 70))), y3, y4, y5] [] mem P) : ∀ (m : Nat) (k : Nat) (mem : jH) (y3 : Option Value) (y4 : Option Value) (y5 : Option Value), (R 70).toNat - k < m → (k ≤ (R 70).toNat ∧ (chS R lst k).2.2 ≤ (k : Int) ∧ (mem 388 22 = ((chS R lst k).2.1 : Int) ∧ (∀ r, r < 3 → ∀ i, i < (chS R lst k).2.1 → mem (398 + r) i = (chS R lst k).1 r i) ∧ (∀ x, (x ≠ 388 ∧ (x < 398 ∨ 402 < x)) → mem x = h x) ∧ ∀ q, (q < 14 ∨ (16 < q ∧ q ≠ 22)) → mem 388 q = h 388 q)) → jT l 247 14 [some (.ref 388), some (.int (jI (lst))), some (.int (jI ((k : Int)))), y3, y4, y5] [] mem P := by
  have ok9 := ok
  obtain ⟨k1, k2, k3, k4, k5, k6, k7⟩ := ok9
  intro m
  induction m with
  | zero => intro k mem y3 y4 y5 hk; omega
  | succ m ih =>
    intro k mem y3 y4 y5 hk hi
    obtain ⟨i0, inx, hi⟩ := hi
    have hi9 := hi
    obtain ⟨i1, i2, fr, fr2⟩ := hi
    have e390 : mem 390 = R := by rw [fr 390 (by omega)]; exact hR
    have ci := chS_CI ok l2 k (by omega)
    have n33 := ci.n33 ok
    have mb := mt_b ok (i := (k : Int)) (R 5).toNat
    have tb := hT.2.1
    have n1 := ci.1
    have bd := ci.bds ok (i := (chS R lst k).2.1 - 1) (by omega)
    have ea0 := i2 0 (by omega) ((chS R lst k).2.1 - 1) (by omega)
    have ea1 := i2 1 (by omega) ((chS R lst k).2.1 - 1) (by omega)
    have ab := alc_b (R := R) (T := (chS R lst k).1) (n := (chS R lst k).2.1) (k := (k : Int)) (mtM R (k : Int) (R 5).toNat).toNat
    have ce : chS R lst (k + 1) = if (chS R lst k).2.2 ≤ (k : Int) ∧ lst ≤ mtM R k (R 5).toNat ∧ R 1 + alc R (chS R lst k).1 (chS R lst k).2.1 k (mtM R k (R 5).toNat).toNat < mtM R k (R 5).toNat then (addA (chS R lst k).1 (chS R lst k).2.1 k (mtW R k (R 5).toNat) (mtM R k (R 5).toNat), (chS R lst k).2.1 + 1, (k : Int) + mtM R k (R 5).toNat) else chS R lst k := rfl
    refine tl_iload_n rfl rfl ?_
    refine tl_aload_n rfl rfl ?_
    refine tl_iconst rfl ?_
    refine tl_v1i (c9 := 12) (c_sizeOf l _ 1 (by decide) (by decide)) rfl rfl rfl rfl rfl (Nat.le_of_ble_eq_true rfl) (fun z1 h1 p1 => ?_)
    obtain ⟨q1, rfl⟩ := p1
    have q1 := q1.symm
    subst q1
    rw [show (5 + 65 * 1 : Int).toNat = 70 from rfl]
    rw [e390]
    refine tl_icmp_ge (tgt := 153) rfl rfl ⟨by omega, by omega⟩ ⟨by omega, by omega⟩ (fun c1 => ?_) (fun c1 => ?_)
    · skip
      show jT _ _ 153 _ _ _ _
      -- leaf 0 at 153
      have e : k = (R 70).toNat := by omega
      rw [e] at hi9
      rw [show (k : Int) = R 70 by omega]
      exact hx mem _ _ _ hi9
    · show jT _ _ 23 _ _ _ _
      refine tl_aload_n rfl rfl ?_
      show jT _ _ 24 _ _ _ _
      refine tl_iload_n rfl rfl ?_
      refine tl_v1v (c9 := 12) (r_layMatch l mem R e390 ok (k : Int) (by omega) (by omega)) rfl rfl rfl rfl rfl (Nat.le_of_ble_eq_true rfl) (fun h1 p1 => ?_)
      obtain ⟨j1, j2, j3, j4, j5⟩ := p1
      have e391 : h1 390 = R := by rw [j4 390 (by decide)]; exact e390
      have hn1 : h1 388 22 = ((chS R lst k).2.1 : Int) := by rw [j5 22 (by omega)]; exact i1
      refine tl_aload_n rfl rfl ?_
      refine tl_getr (c := 12) (k9 := 18) (b := 399) rfl rfl rfl rfl ?_
      refine tl_aload_n rfl rfl ?_
      refine tl_geti (c := 12) (k9 := 22) rfl rfl rfl ?_
      rw [hn1]
      refine tl_iconst rfl ?_
      show jT _ _ 37 _ _ _ _
      refine tl_isub rfl ?_
      refine tl_iald (n := 66) rfl rfl rfl (by omega) (by omega) ?_
      rw [show (((chS R lst k).2.1 : Int) - 1).toNat = (chS R lst k).2.1 - 1 by omega, j4 399 (by decide), show mem 399 ((chS R lst k).2.1 - 1) = (chS R lst k).1 1 ((chS R lst k).2.1 - 1) from ea1]
      refine tl_aload_n rfl rfl ?_
      refine tl_getr (c := 12) (k9 := 17) (b := 398) rfl rfl rfl rfl ?_
      refine tl_aload_n rfl rfl ?_
      refine tl_geti (c := 12) (k9 := 22) rfl rfl rfl ?_
      rw [hn1]
      refine tl_iconst rfl ?_
      show jT _ _ 48 _ _ _ _
      refine tl_isub rfl ?_
      refine tl_iald (n := 66) rfl rfl rfl (by omega) (by omega) ?_
      rw [show (((chS R lst k).2.1 : Int) - 1).toNat = (chS R lst k).2.1 - 1 by omega, j4 398 (by decide), show mem 398 ((chS R lst k).2.1 - 1) = (chS R lst k).1 0 ((chS R lst k).2.1 - 1) from ea0]
      refine tl_isub rfl ?_
      refine tl_istore_n rfl (Nat.le_of_ble_eq_true rfl) rfl ?_
      refine tl_iconst rfl ?_
      refine tl_istore rfl (Nat.le_of_ble_eq_true rfl) rfl ?_
      refine tl_iconst rfl ?_
      show jT _ _ 56 _ _ _ _
      refine tl_istore rfl (Nat.le_of_ble_eq_true rfl) rfl ?_
      show jT _ _ 58 _ _ _ _
      -- leaf 1 at 58
      refine r_alc_lp l h1 R e391 ok lst (chS R lst k).1 (chS R lst k).2.1 k (by omega) j1 (by omega) P (fun y => ?_) _ 0 (Nat.lt_succ_self _) (Nat.zero_le _)
      refine tl_aload_n rfl rfl ?_
      refine tl_geti (c := 12) (k9 := 14) rfl rfl rfl ?_
      rw [j1]
      refine tl_iload_n rfl rfl ?_
      refine tl_icmp_lt (tgt := 147) rfl rfl ⟨by omega, by omega⟩ ⟨by omega, by omega⟩ (fun c1 => ?_) (fun c1 => ?_)
      · skip
        refine tl_iinc rfl rfl rfl ?_
        refine tl_goto (tgt := 14) rfl rfl ?_
        show jT _ _ 14 _ _ _ _
        -- leaf 0 at 14
        first
          | (rw [if_neg (by omega)] at ce
             refine jT.loc ?_ (ih (k + 1) h1 (some (.int (jI (aW (chS R lst k).1 ((chS R lst k).2.1 - 1))))) (some (.int (jI (alc R (chS R lst k).1 (chS R lst k).2.1 (k : Int) (mtM R (k : Int) (R 5).toNat).toNat)))) y (by omega) ⟨by omega, by rw [ce]; omega, ?_⟩)
             · rfl
             · rw [ce]; exact ⟨hn1, fun r hr i hi => by rw [j4 (398 + r) (by omega)]; exact i2 r hr i hi, fun x hx => by rw [j4 x (by omega)]; exact fr x hx, fun q hq => by rw [j5 q (by omega)]; exact fr2 q hq⟩)
          | (rw [if_pos (by omega)] at ce
             have mi := mt_in ok (i := (k : Int)) (k := (R 5).toNat) (by omega)
             have cn : chS R lst (k + (mtM R (k : Int) (R 5).toNat).toNat) = chS R lst (k + 1) := chS_nx (k + 1) (k + (mtM R (k : Int) (R 5).toNat).toNat) (by omega) (by rw [ce]; show ((k + (mtM R (k : Int) (R 5).toNat).toNat : Nat) : Int) ≤ (k : Int) + (mtM R (k : Int) (R 5).toNat); omega)
             refine jT.loc ?_ (ih (k + (mtM R (k : Int) (R 5).toNat).toNat) _ (some (.int (jI (aW (chS R lst k).1 ((chS R lst k).2.1 - 1))))) (some (.int (jI (alc R (chS R lst k).1 (chS R lst k).2.1 (k : Int) (mtM R (k : Int) (R 5).toNat).toNat)))) y (by omega) ⟨by omega, by rw [cn, ce]; show (k : Int) + (mtM R (k : Int) (R 5).toNat) ≤ _; omega, ?_⟩)
             · rw [show ((k + (mtM R (k : Int) (R 5).toNat).toNat : Nat) : Int) = (k : Int) + (mtM R (k : Int) (R 5).toNat) by omega]
               rfl
             · rw [cn, ce]
               have i2b : ∀ r, r < 3 → ∀ i, i < (chS R lst k).2.1 → h1 (398 + r) i = (chS R lst k).1 r i := fun r hr i hi => by rw [j4 (398 + r) (by omega)]; exact i2 r hr i hi
               have frb : ∀ x, (x ≠ 388 ∧ (x < 398 ∨ 402 < x)) → h1 x = h x := fun x hx => by rw [j4 x (by omega)]; exact fr x hx
               have fr2b : ∀ q, (q < 14 ∨ (16 < q ∧ q ≠ 22)) → h1 388 q = h 388 q := fun q hq => by rw [j5 q (by omega)]; exact fr2 q hq
               clear ih hi9 j1 j2 j3 j4 j5 i2 fr fr2 cn ce
               generalize (chS R lst k).1 = T at *
               generalize (chS R lst k).2.1 = n at *
               refine ⟨hs_s, fun r hr i hi => ?_, fun x hx => ?_, fun q hq => ?_⟩
               · have hi2 : i < n + 1 := hi
                 show _ = addA T n k (mtW R (k : Int) (R 5).toNat) (mtM R (k : Int) (R 5).toNat) r i
                 have o := fun (c : i ≠ n) => i2b r hr i (by omega)
                 rcases (show r = 0 ∨ r = 1 ∨ r = 2 by omega) with e | e | e
                 · subst e
                   rw [addA_0, hs_o (by decide), hs_o (by decide), hs_o (by decide)]
                   by_cases c : i = n
                   · subst c; rw [hs_s, if_pos rfl]
                   · rw [hs_k c, if_neg c]; exact o c
                 · subst e
                   rw [addA_1, hs_o (by decide), hs_o (by decide)]
                   by_cases c : i = n
                   · subst c; rw [hs_s, if_pos rfl]
                   · rw [hs_k c, if_neg c, hs_o (by decide)]; exact o c
                 · subst e
                   rw [addA_2, hs_o (by decide)]
                   by_cases c : i = n
                   · subst c; rw [hs_s, if_pos rfl]
                   · rw [hs_k c, if_neg c, hs_o (by decide), hs_o (by decide)]; exact o c
               · rw [hs_O (by omega), hs_O (by omega), hs_O (by omega), hs_O (by omega)]; exact frb x hx
               · rw [hs_k (by omega), hs_o (by decide), hs_o (by decide), hs_o (by decide)]; exact fr2b q hq)
      · show jT _ _ 108 _ _ _ _
        show jT _ _ 108 _ _ _ _
        refine tl_aload_n rfl rfl ?_
        refine tl_geti (c := 12) (k9 := 14) rfl rfl rfl ?_
        rw [j1]
        refine tl_aload_n rfl rfl ?_
        refine tl_getr (c := 12) (k9 := 3) (b := 390) rfl rfl rfl rfl ?_
        refine tl_iconst rfl ?_
        refine tl_iald (n := 1362) rfl rfl rfl (by omega) (by omega) ?_
        rw [show Int.toNat 1 = 1 from rfl]
        rw [e391]
        refine tl_iload rfl rfl ?_
        show jT _ _ 120 _ _ _ _
        refine tl_iadd rfl ?_
        refine tl_icmp_le (tgt := 147) rfl rfl ⟨by omega, by omega⟩ ⟨by omega, by omega⟩ (fun c2 => ?_) (fun c2 => ?_)
        · skip
          refine tl_iinc rfl rfl rfl ?_
          refine tl_goto (tgt := 14) rfl rfl ?_
          show jT _ _ 14 _ _ _ _
          -- leaf 1 at 14
          first
            | (rw [if_neg (by omega)] at ce
               refine jT.loc ?_ (ih (k + 1) h1 (some (.int (jI (aW (chS R lst k).1 ((chS R lst k).2.1 - 1))))) (some (.int (jI (alc R (chS R lst k).1 (chS R lst k).2.1 (k : Int) (mtM R (k : Int) (R 5).toNat).toNat)))) y (by omega) ⟨by omega, by rw [ce]; omega, ?_⟩)
               · rfl
               · rw [ce]; exact ⟨hn1, fun r hr i hi => by rw [j4 (398 + r) (by omega)]; exact i2 r hr i hi, fun x hx => by rw [j4 x (by omega)]; exact fr x hx, fun q hq => by rw [j5 q (by omega)]; exact fr2 q hq⟩)
            | (rw [if_pos (by omega)] at ce
               have mi := mt_in ok (i := (k : Int)) (k := (R 5).toNat) (by omega)
               have cn : chS R lst (k + (mtM R (k : Int) (R 5).toNat).toNat) = chS R lst (k + 1) := chS_nx (k + 1) (k + (mtM R (k : Int) (R 5).toNat).toNat) (by omega) (by rw [ce]; show ((k + (mtM R (k : Int) (R 5).toNat).toNat : Nat) : Int) ≤ (k : Int) + (mtM R (k : Int) (R 5).toNat); omega)
               refine jT.loc ?_ (ih (k + (mtM R (k : Int) (R 5).toNat).toNat) _ (some (.int (jI (aW (chS R lst k).1 ((chS R lst k).2.1 - 1))))) (some (.int (jI (alc R (chS R lst k).1 (chS R lst k).2.1 (k : Int) (mtM R (k : Int) (R 5).toNat).toNat)))) y (by omega) ⟨by omega, by rw [cn, ce]; show (k : Int) + (mtM R (k : Int) (R 5).toNat) ≤ _; omega, ?_⟩)
               · rw [show ((k + (mtM R (k : Int) (R 5).toNat).toNat : Nat) : Int) = (k : Int) + (mtM R (k : Int) (R 5).toNat) by omega]
                 rfl
               · rw [cn, ce]
                 have i2b : ∀ r, r < 3 → ∀ i, i < (chS R lst k).2.1 → h1 (398 + r) i = (chS R lst k).1 r i := fun r hr i hi => by rw [j4 (398 + r) (by omega)]; exact i2 r hr i hi
                 have frb : ∀ x, (x ≠ 388 ∧ (x < 398 ∨ 402 < x)) → h1 x = h x := fun x hx => by rw [j4 x (by omega)]; exact fr x hx
                 have fr2b : ∀ q, (q < 14 ∨ (16 < q ∧ q ≠ 22)) → h1 388 q = h 388 q := fun q hq => by rw [j5 q (by omega)]; exact fr2 q hq
                 clear ih hi9 j1 j2 j3 j4 j5 i2 fr fr2 cn ce
                 generalize (chS R lst k).1 = T at *
                 generalize (chS R lst k).2.1 = n at *
                 refine ⟨hs_s, fun r hr i hi => ?_, fun x hx => ?_, fun q hq => ?_⟩
                 · have hi2 : i < n + 1 := hi
                   show _ = addA T n k (mtW R (k : Int) (R 5).toNat) (mtM R (k : Int) (R 5).toNat) r i
                   have o := fun (c : i ≠ n) => i2b r hr i (by omega)
                   rcases (show r = 0 ∨ r = 1 ∨ r = 2 by omega) with e | e | e
                   · subst e
                     rw [addA_0, hs_o (by decide), hs_o (by decide), hs_o (by decide)]
                     by_cases c : i = n
                     · subst c; rw [hs_s, if_pos rfl]
                     · rw [hs_k c, if_neg c]; exact o c
                   · subst e
                     rw [addA_1, hs_o (by decide), hs_o (by decide)]
                     by_cases c : i = n
                     · subst c; rw [hs_s, if_pos rfl]
                     · rw [hs_k c, if_neg c, hs_o (by decide)]; exact o c
                   · subst e
                     rw [addA_2, hs_o (by decide)]
                     by_cases c : i = n
                     · subst c; rw [hs_s, if_pos rfl]
                     · rw [hs_k c, if_neg c, hs_o (by decide), hs_o (by decide)]; exact o c
                 · rw [hs_O (by omega), hs_O (by omega), hs_O (by omega), hs_O (by omega)]; exact frb x hx
                 · rw [hs_k (by omega), hs_o (by decide), hs_o (by decide), hs_o (by decide)]; exact fr2b q hq)
        · show jT _ _ 124 _ _ _ _
          refine tl_aload_n rfl rfl ?_
          refine tl_iload_n rfl rfl ?_
          refine tl_aload_n rfl rfl ?_
          show jT _ _ 127 _ _ _ _
          refine tl_geti (c := 12) (k9 := 15) rfl rfl rfl ?_
          rw [j2]
          refine tl_aload_n rfl rfl ?_
          refine tl_geti (c := 12) (k9 := 14) rfl rfl rfl ?_
          rw [j1]
          refine tl_v3v (c9 := 12) (r_addAnchor l h1 (chS R lst k).2.1 hn1 (by omega) (k : Int) (mtW R (k : Int) (R 5).toNat) (mtM R (k : Int) (R 5).toNat)) rfl rfl rfl rfl rfl (Nat.le_of_ble_eq_true rfl) (fun h3 p3 => ?_)
          subst p3
          refine tl_iload_n rfl rfl ?_
          refine tl_aload_n rfl rfl ?_
          refine tl_geti (c := 12) (k9 := 14) rfl rfl rfl ?_
          rw [hs_k (by decide), hs_o (by decide), hs_o (by decide), hs_o (by decide), j1]
          show jT _ _ 142 _ _ _ _
          refine tl_iadd rfl ?_
          refine tl_istore_n rfl (Nat.le_of_ble_eq_true rfl) rfl ?_
          refine tl_goto (tgt := 150) rfl rfl ?_
          refine tl_goto (tgt := 14) rfl rfl ?_
          show jT _ _ 14 _ _ _ _
          -- leaf 2 at 14
          first
            | (rw [if_neg (by omega)] at ce
               refine jT.loc ?_ (ih (k + 1) h1 (some (.int (jI (aW (chS R lst k).1 ((chS R lst k).2.1 - 1))))) (some (.int (jI (alc R (chS R lst k).1 (chS R lst k).2.1 (k : Int) (mtM R (k : Int) (R 5).toNat).toNat)))) y (by omega) ⟨by omega, by rw [ce]; omega, ?_⟩)
               · rfl
               · rw [ce]; exact ⟨hn1, fun r hr i hi => by rw [j4 (398 + r) (by omega)]; exact i2 r hr i hi, fun x hx => by rw [j4 x (by omega)]; exact fr x hx, fun q hq => by rw [j5 q (by omega)]; exact fr2 q hq⟩)
            | (rw [if_pos (by omega)] at ce
               have mi := mt_in ok (i := (k : Int)) (k := (R 5).toNat) (by omega)
               have cn : chS R lst (k + (mtM R (k : Int) (R 5).toNat).toNat) = chS R lst (k + 1) := chS_nx (k + 1) (k + (mtM R (k : Int) (R 5).toNat).toNat) (by omega) (by rw [ce]; show ((k + (mtM R (k : Int) (R 5).toNat).toNat : Nat) : Int) ≤ (k : Int) + (mtM R (k : Int) (R 5).toNat); omega)
               refine jT.loc ?_ (ih (k + (mtM R (k : Int) (R 5).toNat).toNat) _ (some (.int (jI (aW (chS R lst k).1 ((chS R lst k).2.1 - 1))))) (some (.int (jI (alc R (chS R lst k).1 (chS R lst k).2.1 (k : Int) (mtM R (k : Int) (R 5).toNat).toNat)))) y (by omega) ⟨by omega, by rw [cn, ce]; show (k : Int) + (mtM R (k : Int) (R 5).toNat) ≤ _; omega, ?_⟩)
               · rw [show ((k + (mtM R (k : Int) (R 5).toNat).toNat : Nat) : Int) = (k : Int) + (mtM R (k : Int) (R 5).toNat) by omega]
                 rfl
               · rw [cn, ce]
                 have i2b : ∀ r, r < 3 → ∀ i, i < (chS R lst k).2.1 → h1 (398 + r) i = (chS R lst k).1 r i := fun r hr i hi => by rw [j4 (398 + r) (by omega)]; exact i2 r hr i hi
                 have frb : ∀ x, (x ≠ 388 ∧ (x < 398 ∨ 402 < x)) → h1 x = h x := fun x hx => by rw [j4 x (by omega)]; exact fr x hx
                 have fr2b : ∀ q, (q < 14 ∨ (16 < q ∧ q ≠ 22)) → h1 388 q = h 388 q := fun q hq => by rw [j5 q (by omega)]; exact fr2 q hq
                 clear ih hi9 j1 j2 j3 j4 j5 i2 fr fr2 cn ce
                 generalize (chS R lst k).1 = T at *
                 generalize (chS R lst k).2.1 = n at *
                 refine ⟨hs_s, fun r hr i hi => ?_, fun x hx => ?_, fun q hq => ?_⟩
                 · have hi2 : i < n + 1 := hi
                   show _ = addA T n k (mtW R (k : Int) (R 5).toNat) (mtM R (k : Int) (R 5).toNat) r i
                   have o := fun (c : i ≠ n) => i2b r hr i (by omega)
                   rcases (show r = 0 ∨ r = 1 ∨ r = 2 by omega) with e | e | e
                   · subst e
                     rw [addA_0, hs_o (by decide), hs_o (by decide), hs_o (by decide)]
                     by_cases c : i = n
                     · subst c; rw [hs_s, if_pos rfl]
                     · rw [hs_k c, if_neg c]; exact o c
                   · subst e
                     rw [addA_1, hs_o (by decide), hs_o (by decide)]
                     by_cases c : i = n
                     · subst c; rw [hs_s, if_pos rfl]
                     · rw [hs_k c, if_neg c, hs_o (by decide)]; exact o c
                   · subst e
                     rw [addA_2, hs_o (by decide)]
                     by_cases c : i = n
                     · subst c; rw [hs_s, if_pos rfl]
                     · rw [hs_k c, if_neg c, hs_o (by decide), hs_o (by decide)]; exact o c
                 · rw [hs_O (by omega), hs_O (by omega), hs_O (by omega), hs_O (by omega)]; exact frb x hx
                 · rw [hs_k (by omega), hs_o (by decide), hs_o (by decide), hs_o (by decide)]; exact fr2b q hq)
set_option maxRecDepth 20000 in
set_option maxHeartbeats 1000000 in
theorem r_lay_B (l : Launch) (h : jH) (R : Nat → Int) (hR : h 390 = R) (ok : Rok R) (hRt : Rt R) (lst : Int) (T : jH) (n : Nat) (nx : Int) (ci : CI R T n nx) (P : Option Value → jH → Prop) (hx : ∀ mem y4 y5, ((mem 388 22 = (n : Int) ∧ (∀ x, (x ≠ 388 ∧ (x < 398 ∨ 402 < x)) → mem x = h x) ∧ ∀ q, (q < 14 ∨ (16 < q ∧ q ≠ 22)) → mem 388 q = h 388 q) ∧ ∀ r, r < 5 → ∀ i, i < n → mem (398 + r) i = T1 R T n r i) → jT l 247 199 [some (.ref 388), some (.int (jI (lst))), some (.int (jI (R 70))), some (.int (jI ((n : Int)))), y4, y5] [] mem P) : ∀ (m : Nat) (k : Nat) (mem : jH) (y4 : Option Value) (y5 : Option Value), n - k < m → (k ≤ n ∧ (mem 388 22 = (n : Int) ∧ (∀ x, (x ≠ 388 ∧ (x < 398 ∨ 402 < x)) → mem x = h x) ∧ ∀ q, (q < 14 ∨ (16 < q ∧ q ≠ 22)) → mem 388 q = h 388 q) ∧ (∀ r, r < 3 → ∀ i, i < n → mem (398 + r) i = T r i) ∧ ∀ i, i < k → mem 401 i = fw R T n i ∧ mem 402 i = bk R T i) → jT l 247 155 [some (.ref 388), some (.int (jI (lst))), some (.int (jI (R 70))), some (.int (jI ((k : Int)))), y4, y5] [] mem P := by
  have ok9 := ok
  obtain ⟨k1, k2, k3, k4, k5, k6, k7⟩ := ok9
  have n33 := ci.n33 ok
  intro m
  induction m with
  | zero => intro k mem y4 y5 hk; omega
  | succ m ih =>
    intro k mem y4 y5 hk hi
    obtain ⟨i0, ⟨b1, fr, fr2⟩, i2, i3⟩ := hi
    have e390 : mem 390 = R := by rw [fr 390 (by omega)]; exact hR
    refine tl_iload_n rfl rfl ?_
    refine tl_aload_n rfl rfl ?_
    refine tl_geti (c := 12) (k9 := 22) rfl rfl rfl ?_
    rw [b1]
    refine tl_icmp_ge (tgt := 199) rfl rfl ⟨by omega, by omega⟩ ⟨by omega, by omega⟩ (fun c1 => ?_) (fun c1 => ?_)
    · skip
      show jT _ _ 199 _ _ _ _
      -- leaf 0 at 199
      have e : k = n := by omega
      rw [e] at i3 ⊢
      refine hx mem _ _ ⟨⟨b1, fr, fr2⟩, fun r hr i hi => ?_⟩
      rcases (show r < 3 ∨ r = 3 ∨ r = 4 by omega) with c | c | c
      · rw [i2 r c i hi, T1, if_neg (by omega), if_neg (by omega)]
      · subst c; exact (i3 i hi).1
      · subst c; exact (i3 i hi).2
    · show jT _ _ 163 _ _ _ _
      refine tl_aload_n rfl rfl ?_
      refine tl_getr (c := 12) (k9 := 20) (b := 401) rfl rfl rfl rfl ?_
      show jT _ _ 167 _ _ _ _
      refine tl_iload_n rfl rfl ?_
      refine tl_aload_n rfl rfl ?_
      refine tl_iload_n rfl rfl ?_
      refine tl_v1i (c9 := 12) (r_reachF l mem R e390 ok hRt T n nx ci b1 (i2 0 (by omega)) (i2 1 (by omega)) (i2 2 (by omega)) k (by omega)) rfl rfl rfl rfl rfl (Nat.le_of_ble_eq_true rfl) (fun z1 h1 p1 => ?_)
      obtain ⟨q1, rfl⟩ := p1
      have q1 := q1.symm
      subst q1
      refine tl_iast (n := 66) rfl rfl rfl (by omega) (by omega) ?_
      refine tl_aload_n rfl rfl ?_
      refine tl_getr (c := 12) (k9 := 21) (b := 402) rfl rfl rfl rfl ?_
      show jT _ _ 178 _ _ _ _
      refine tl_iload_n rfl rfl ?_
      refine tl_iload_n rfl rfl ?_
      refine tl_if_ne (tgt := 187) rfl rfl ⟨by omega, by omega⟩ (fun c2 => ?_) (fun c2 => ?_)
      · skip
        refine tl_aload_n rfl rfl ?_
        refine tl_iload_n rfl rfl ?_
        refine tl_v1i (c9 := 12) (r_reachB l (hs mem 401 k (fw R T n k)) R (by rw [hs_O (by decide)]; exact e390) ok hRt T n nx ci (by rw [hs_o (by decide)]; exact b1) (fun i hi => by rw [hs_o (by decide)]; exact i2 0 (by omega) i hi) (fun i hi => by rw [hs_o (by decide)]; exact i2 1 (by omega) i hi) (fun i hi => by rw [hs_o (by decide)]; exact i2 2 (by omega) i hi) k (by omega) (by omega)) rfl rfl rfl rfl rfl (Nat.le_of_ble_eq_true rfl) (fun z2 h2 p2 => ?_)
        obtain ⟨q2, rfl⟩ := p2
        have q2 := q2.symm
        subst q2
        refine tl_iast (n := 66) rfl rfl rfl (by omega) (by omega) ?_
        show jT _ _ 193 _ _ _ _
        refine tl_iinc rfl rfl rfl ?_
        refine tl_goto (tgt := 155) rfl rfl ?_
        show jT _ _ 155 _ _ _ _
        -- leaf 1 at 155
        rw [Int.toNat_natCast]
        have stp : jT l 247 155 [some (.ref 388), some (.int (jI (lst))), some (.int (jI (R 70))), some (.int (jI (((k + 1 : Nat) : Int)))), y4, y5] [] (hs (hs mem 401 k (fw R T n k)) 402 k (bk R T k)) P := by
          refine ih (k + 1) (hs (hs mem 401 k (fw R T n k)) 402 k (bk R T k)) _ _ (by omega) ⟨by omega, ⟨by rw [hs_o (by decide), hs_o (by decide)]; exact b1, fun x hx => by rw [hs_O (by omega), hs_O (by omega)]; exact fr x hx, fun q hq => by rw [hs_o (by decide), hs_o (by decide)]; exact fr2 q hq⟩, fun r hr i hi => by rw [hs_o (by omega), hs_o (by omega)]; exact i2 r hr i hi, fun i hi => ?_⟩
          rw [hs_o (show (401 : Nat) ≠ 402 by decide)]
          by_cases c : i = k
          · subst c; rw [hs_s, hs_s]; exact ⟨rfl, rfl⟩
          · rw [hs_k c, hs_k c, hs_o (show (402 : Nat) ≠ 401 by decide)]; exact i3 i (by omega)
        first | exact stp | (rw [show bk R T k = 0 by rw [bk, if_pos (by omega)]] at stp; exact stp)
      · show jT _ _ 183 _ _ _ _
        refine tl_iconst rfl ?_
        refine tl_goto (tgt := 192) rfl rfl ?_
        refine tl_iast (n := 66) rfl rfl rfl (by omega) (by omega) ?_
        refine tl_iinc rfl rfl rfl ?_
        refine tl_goto (tgt := 155) rfl rfl ?_
        show jT _ _ 155 _ _ _ _
        -- leaf 2 at 155
        rw [Int.toNat_natCast]
        have stp : jT l 247 155 [some (.ref 388), some (.int (jI (lst))), some (.int (jI (R 70))), some (.int (jI (((k + 1 : Nat) : Int)))), y4, y5] [] (hs (hs mem 401 k (fw R T n k)) 402 k (bk R T k)) P := by
          refine ih (k + 1) (hs (hs mem 401 k (fw R T n k)) 402 k (bk R T k)) _ _ (by omega) ⟨by omega, ⟨by rw [hs_o (by decide), hs_o (by decide)]; exact b1, fun x hx => by rw [hs_O (by omega), hs_O (by omega)]; exact fr x hx, fun q hq => by rw [hs_o (by decide), hs_o (by decide)]; exact fr2 q hq⟩, fun r hr i hi => by rw [hs_o (by omega), hs_o (by omega)]; exact i2 r hr i hi, fun i hi => ?_⟩
          rw [hs_o (show (401 : Nat) ≠ 402 by decide)]
          by_cases c : i = k
          · subst c; rw [hs_s, hs_s]; exact ⟨rfl, rfl⟩
          · rw [hs_k c, hs_k c, hs_o (show (402 : Nat) ≠ 401 by decide)]; exact i3 i (by omega)
        first | exact stp | (rw [show bk R T k = 0 by rw [bk, if_pos (by omega)]] at stp; exact stp)
set_option maxRecDepth 20000 in
set_option maxHeartbeats 1000000 in
theorem r_lay_C (l : Launch) (h : jH) (R : Nat → Int) (hR : h 390 = R) (ok : Rok R) (hRt : Rt R) (lst : Int) (U : jH) (n : Nat) (ti : TI R U n) (P : Option Value → jH → Prop) (hP : ∀ mem, ((mem 388 22 = (n : Int) ∧ (∀ x, (x ≠ 388 ∧ (x < 398 ∨ 402 < x)) → mem x = h x) ∧ ∀ q, (q < 14 ∨ (16 < q ∧ q ≠ 22)) → mem 388 q = h 388 q) ∧ ∀ r, r < 5 → ∀ i, i < n → mem (398 + r) i = shs R U (n - 1) r i) → P none mem) : ∀ (m : Nat) (k : Nat) (mem : jH) (y4 : Option Value) (y5 : Option Value), n - k < m → (k + 1 ≤ n ∧ (mem 388 22 = (n : Int) ∧ (∀ x, (x ≠ 388 ∧ (x < 398 ∨ 402 < x)) → mem x = h x) ∧ ∀ q, (q < 14 ∨ (16 < q ∧ q ≠ 22)) → mem 388 q = h 388 q) ∧ (∀ r, r < 5 → ∀ i, i < n → mem (398 + r) i = shs R U k r i)) → jT l 247 201 [some (.ref 388), some (.int (jI (lst))), some (.int (jI (R 70))), some (.int (jI ((k : Int) + 1))), y4, y5] [] mem P := by
  have ok9 := ok
  obtain ⟨k1, k2, k3, k4, k5, k6, k7⟩ := ok9
  have n33 := ti.1.n33 ok
  intro m
  induction m with
  | zero => intro k mem y4 y5 hk; omega
  | succ m ih =>
    intro k mem y4 y5 hk hi
    obtain ⟨i0, ⟨b1, fr, fr2⟩, i2⟩ := hi
    have e390 : mem 390 = R := by rw [fr 390 (by omega)]; exact hR
    refine tl_iload_n rfl rfl ?_
    refine tl_aload_n rfl rfl ?_
    refine tl_geti (c := 12) (k9 := 22) rfl rfl rfl ?_
    rw [b1]
    refine tl_icmp_ge (tgt := 223) rfl rfl ⟨by omega, by omega⟩ ⟨by omega, by omega⟩ (fun c1 => ?_) (fun c1 => ?_)
    · skip
      refine tl_ret rfl ?_
      -- leaf 0 at 223
      have e : k = n - 1 := by omega
      rw [e] at i2
      exact hP mem ⟨⟨b1, fr, fr2⟩, i2⟩
    · show jT _ _ 209 _ _ _ _
      refine tl_aload_n rfl rfl ?_
      show jT _ _ 210 _ _ _ _
      refine tl_iload_n rfl rfl ?_
      refine tl_iconst rfl ?_
      refine tl_isub rfl ?_
      rw [show (k : Int) + 1 - 1 = (k : Int) by omega]
      refine tl_iload_n rfl rfl ?_
      refine tl_v2v (c9 := 12) (r_share l mem R e390 ok hRt (shs R U k) n (shs_TI ti k (by omega)) b1 i2 k (by omega)) rfl rfl rfl rfl rfl (Nat.le_of_ble_eq_true rfl) (fun h2 p2 => ?_)
      obtain ⟨g1, g2⟩ := p2
      refine tl_iinc rfl rfl rfl ?_
      refine tl_goto (tgt := 201) rfl rfl ?_
      show jT _ _ 201 _ _ _ _
      -- leaf 1 at 201
      have := ih (k + 1) h2 y4 y5 (by omega) ⟨by omega, ⟨by rw [g2 388 (by omega)]; exact b1, fun x hx => by rw [g2 x (by omega)]; exact fr x hx, fun q hq => by rw [g2 388 (by omega)]; exact fr2 q hq⟩, g1⟩
      rw [show ((k + 1 : Nat) : Int) + 1 = (k : Int) + 1 + 1 by omega] at this
      exact this
set_option maxRecDepth 20000 in
set_option maxHeartbeats 1000000 in
theorem r_layAnchors (l : Launch) (h : jH) (R : Nat → Int) (hR : h 390 = R) (ok : Rok R) (hT : Rt R) (lst : Int) (l2 : 2 ≤ lst) (l9 : lst ≤ 9) : cV l 247 [.ref 388, .int (jI lst)] h (fun h' => (h' 388 22 = (anN R lst : Int) ∧ (∀ r, r < 5 → ∀ i, i < anN R lst → h' (398 + r) i = anT R lst r i) ∧ (∀ x, (x ≠ 388 ∧ (x < 398 ∨ 402 < x)) → h' x = h x) ∧ ∀ q, (q < 14 ∨ (16 < q ∧ q ≠ 22)) → h' 388 q = h 388 q)) := by
  have ok9 := ok
  obtain ⟨k1, k2, k3, k4, k5, k6, k7⟩ := ok9
  have ci := chS_CI ok l2 (R 70).toNat (by omega)
  refine cV.of rfl rfl ?_
  refine tl_aload_n rfl rfl ?_
  refine tl_iconst rfl ?_
  refine tl_puti (c := 12) (k9 := 22) rfl rfl rfl rfl ?_
  refine tl_aload_n rfl rfl ?_
  refine tl_iconst rfl ?_
  refine tl_iconst rfl ?_
  show jT _ _ 8 _ _ _ _
  refine tl_iconst rfl ?_
  refine tl_v3v (c9 := 12) (r_addAnchor l _ 0 hs_s (by omega) 0 0 0) rfl rfl rfl rfl rfl (Nat.le_of_ble_eq_true rfl) (fun h3 p3 => ?_)
  subst p3
  refine tl_iconst rfl ?_
  refine tl_istore_n rfl (Nat.le_of_ble_eq_true rfl) rfl ?_
  show jT _ _ 14 _ _ _ _
  -- leaf 0 at 14
  refine r_choose_lp l h R hR ok hT lst l2 l9 _ (fun mem y3 y4 y5 hj => ?_) _ 0 _ _ _ _ (Nat.lt_succ_self _) ⟨Nat.zero_le _, Int.le_refl _, hs_s, fun r hr i hi => ?_, fun x hx => ?_, fun q hq => ?_⟩
  · skip
    refine tl_iconst rfl ?_
    refine tl_istore_n rfl (Nat.le_of_ble_eq_true rfl) rfl ?_
    show jT _ _ 155 _ _ _ _
    -- leaf 0 at 155
    refine r_lay_B l h R hR ok hT lst (chS R lst (R 70).toNat).1 (chS R lst (R 70).toNat).2.1 (chS R lst (R 70).toNat).2.2 ci _ (fun mem2 y42 y52 hj2 => ?_) _ 0 mem _ _ (Nat.lt_succ_self _) ⟨Nat.zero_le _, ⟨hj.1, hj.2.2⟩, hj.2.1, fun i hi => by omega⟩
    refine tl_iconst rfl ?_
    refine tl_istore_n rfl (Nat.le_of_ble_eq_true rfl) rfl ?_
    show jT _ _ 201 _ _ _ _
    -- leaf 0 at 201
    refine r_lay_C l h R hR ok hT lst (T1 R (chS R lst (R 70).toNat).1 (chS R lst (R 70).toNat).2.1) (chS R lst (R 70).toNat).2.1 (T1_TI ok ci) _ (fun mem3 hj3 => ⟨rfl, hj3.1.1, hj3.2, hj3.1.2⟩) _ 0 mem2 _ _ (Nat.lt_succ_self _) ⟨ci.1, hj2⟩
  · have hi2 : i < 1 := hi
    rw [show i = 0 by omega]
    show _ = (0 : Int)
    rcases (show r = 0 ∨ r = 1 ∨ r = 2 by omega) with e | e | e
    · subst e; rw [hs_o (by decide), hs_o (by decide), hs_o (by decide), hs_s]
    · subst e; rw [hs_o (by decide), hs_o (by decide), hs_s]
    · subst e; rw [hs_o (by decide), hs_s]
  · rw [hs_O (by omega), hs_O (by omega), hs_O (by omega), hs_O (by omega), hs_O (by omega)]
  · rw [hs_k (by omega), hs_o (by decide), hs_o (by decide), hs_o (by decide), hs_k (by omega)]
