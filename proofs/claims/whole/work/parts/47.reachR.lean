/-! the anchors of the reference: worth, reachForward, reachBack, shareOut -/
set_option maxRecDepth 20000 in
set_option maxHeartbeats 1000000 in
theorem r_areAlike (l : Launch) (h : jH) (R : Nat → Int) (e390 : h 390 = R) (ok : Rok R) (i p : Int) (i0 : 0 ≤ i) (i1 : i < R 70) (hp : jr p) : cI l 244 [.ref 388, .int (jI i), .int (jI p)] h (fun z h' => h' = h ∧ z = zb (ali R i p)) := by
  have ok9 := ok
  obtain ⟨k1, k2, k3, k4, k5, k6, k7⟩ := ok9
  refine cI.ofZ rfl rfl ?_
  refine tl_aload_n rfl rfl ?_
  refine tl_iload_n rfl rfl ?_
  refine tl_v1i (c9 := 12) (r_canCopy l h R e390 ok p hp) rfl rfl rfl rfl rfl (Nat.le_of_ble_eq_true rfl) (fun z1 h1 p1 => ?_)
  obtain ⟨q1, rfl⟩ := p1
  have q1 := q1.symm
  subst q1
  have b1 := zb_b (opn R p)
  refine tl_if_eq (tgt := 27) rfl rfl ⟨by omega, by omega⟩ (fun c1 => ?_) (fun c1 => ?_)
  · skip
    have ea := zb0 c1
    refine tl_iconst rfl ?_
    refine tl_iret rfl ?_
    -- leaf 0 at 28
    refine ⟨_, rfl, by omega, rfl, ?_⟩
    first | exact (zb_f (ali_f ea)).symm | exact (zb_f (ali_f2 (by omega))).symm | exact (zb_t (ali_t ea (by omega))).symm
  · show jT _ _ 8 _ _ _ _
    have ea := zb1' c1
    show jT _ _ 8 _ _ _ _
    refine tl_aload_n rfl rfl ?_
    refine tl_iconst rfl ?_
    refine tl_iload_n rfl rfl ?_
    refine tl_v2i (c9 := 12) (c_at l _ 1 (i) (by decide) (by decide) (by omega) (by omega)) rfl rfl rfl rfl rfl (Nat.le_of_ble_eq_true rfl) (fun z2 h2 p2 => ?_)
    obtain ⟨q2, p2⟩ := p2
    have q2 := q2.symm
    subst q2
    rw [show ((6 : Int) + 65 * 1 + (i)).toNat = 71 + (i).toNat by omega, e390] at p2
    have ot := opn_t ea
    have y2 := k6 i.toNat (by omega)
    have ya2 := y2.1
    have yb2 := y2.2
    refine tl_aload_n rfl rfl ?_
    refine tl_iconst rfl ?_
    refine tl_iload_n rfl rfl ?_
    show jT _ _ 17 _ _ _ _
    refine tl_v2i (c9 := 12) (c_at l _ 0 (p) (by decide) (by decide) (by omega) (by omega)) rfl rfl rfl rfl rfl (Nat.le_of_ble_eq_true rfl) (fun z3 h3 p3 => ?_)
    obtain ⟨q3, p3⟩ := p3
    have q3 := q3.symm
    subst q3
    rw [show ((6 : Int) + 65 * 0 + (p)).toNat = 6 + (p).toNat by omega, e390] at p3
    have y3 := k5 p.toNat (by omega)
    have ya3 := y3.1
    have yb3 := y3.2
    refine tl_icmp_ne (tgt := 27) rfl rfl ⟨by omega, by omega⟩ ⟨by omega, by omega⟩ (fun c2 => ?_) (fun c2 => ?_)
    · skip
      refine tl_iconst rfl ?_
      refine tl_iret rfl ?_
      -- leaf 1 at 28
      refine ⟨_, rfl, by omega, rfl, ?_⟩
      first | exact (zb_f (ali_f ea)).symm | exact (zb_f (ali_f2 (by omega))).symm | exact (zb_t (ali_t ea (by omega))).symm
    · show jT _ _ 23 _ _ _ _
      refine tl_iconst rfl ?_
      refine tl_goto (tgt := 28) rfl rfl ?_
      refine tl_iret rfl ?_
      -- leaf 2 at 28
      refine ⟨_, rfl, by omega, rfl, ?_⟩
      first | exact (zb_f (ali_f ea)).symm | exact (zb_f (ali_f2 (by omega))).symm | exact (zb_t (ali_t ea (by omega))).symm
set_option maxRecDepth 20000 in
set_option maxHeartbeats 1000000 in
theorem r_worth (l : Launch) (h : jH) (R : Nat → Int) (e390 : h 390 = R) (ok : Rok R) (i p : Int) (i0 : 0 ≤ i) (i1 : i < R 70) (ho : opn R p = true) : cI l 245 [.ref 388, .int (jI i), .int (jI p)] h (fun z h' => h' = h ∧ z = ws R i p) := by
  have ok9 := ok
  obtain ⟨k1, k2, k3, k4, k5, k6, k7⟩ := ok9
  have ot := opn_t ho
  refine cI.of rfl rfl ?_
  refine tl_aload_n rfl rfl ?_
  refine tl_iconst rfl ?_
  refine tl_iload_n rfl rfl ?_
  refine tl_v2i (c9 := 12) (c_at l _ 1 (i) (by decide) (by decide) (by omega) (by omega)) rfl rfl rfl rfl rfl (Nat.le_of_ble_eq_true rfl) (fun z2 h2 p2 => ?_)
  obtain ⟨q2, p2⟩ := p2
  have q2 := q2.symm
  subst q2
  rw [show ((6 : Int) + 65 * 1 + (i)).toNat = 71 + (i).toNat by omega, e390] at p2
  have y2 := k6 i.toNat (by omega)
  have ya2 := y2.1
  have yb2 := y2.2
  refine tl_aload_n rfl rfl ?_
  refine tl_iconst rfl ?_
  show jT _ _ 8 _ _ _ _
  refine tl_iload_n rfl rfl ?_
  refine tl_v2i (c9 := 12) (c_at l _ 0 (p) (by decide) (by decide) (by omega) (by omega)) rfl rfl rfl rfl rfl (Nat.le_of_ble_eq_true rfl) (fun z3 h3 p3 => ?_)
  obtain ⟨q3, p3⟩ := p3
  have q3 := q3.symm
  subst q3
  rw [show ((6 : Int) + 65 * 0 + (p)).toNat = 6 + (p).toNat by omega, e390] at p3
  have y3 := k5 p.toNat (by omega)
  have ya3 := y3.1
  have yb3 := y3.2
  refine tl_icmp_ne (tgt := 24) rfl rfl ⟨by omega, by omega⟩ ⟨by omega, by omega⟩ (fun c1 => ?_) (fun c1 => ?_)
  · skip
    refine tl_aload_n rfl rfl ?_
    refine tl_getr (c := 12) (k9 := 3) (b := 390) rfl rfl rfl rfl ?_
    refine tl_iconst rfl ?_
    refine tl_iald (n := 1362) rfl rfl rfl (by omega) (by omega) ?_
    rw [show Int.toNat 3 = 3 from rfl]
    rw [e390]
    show jT _ _ 30 _ _ _ _
    refine tl_ineg rfl ?_
    refine tl_iret rfl ?_
    -- leaf 0 at 31
    refine ⟨_, rfl, rfl, ?_⟩
    first | exact (ws_f (ali_f2 (by omega))).symm | exact (ws_t (ali_t ho (by omega))).symm
  · show jT _ _ 15 _ _ _ _
    refine tl_aload_n rfl rfl ?_
    refine tl_getr (c := 12) (k9 := 3) (b := 390) rfl rfl rfl rfl ?_
    refine tl_iconst rfl ?_
    refine tl_iald (n := 1362) rfl rfl rfl (by omega) (by omega) ?_
    rw [show Int.toNat 2 = 2 from rfl]
    rw [e390]
    refine tl_goto (tgt := 31) rfl rfl ?_
    show jT _ _ 31 _ _ _ _
    refine tl_iret rfl ?_
    -- leaf 1 at 31
    refine ⟨_, rfl, rfl, ?_⟩
    first | exact (ws_f (ali_f2 (by omega))).symm | exact (ws_t (ali_t ho (by omega))).symm
set_option maxRecDepth 20000 in
set_option maxHeartbeats 1000000 in
theorem r_endOf (l : Launch) (h T : jH) (a : Nat) (a66 : a < 66) (t0 : h 398 a = T 0 a) (t2 : h 400 a = T 2 a) : cI l 248 [.ref 388, .int (jI (a : Int))] h (fun z h' => h' = h ∧ z = aE T a) := by
  refine cI.of rfl rfl ?_
  refine tl_aload_n rfl rfl ?_
  refine tl_getr (c := 12) (k9 := 17) (b := 398) rfl rfl rfl rfl ?_
  refine tl_iload_n rfl rfl ?_
  refine tl_iald (n := 66) rfl rfl rfl (by omega) (by omega) ?_
  rw [Int.toNat_natCast, t0]
  refine tl_aload_n rfl rfl ?_
  refine tl_getr (c := 12) (k9 := 19) (b := 400) rfl rfl rfl rfl ?_
  show jT _ _ 10 _ _ _ _
  refine tl_iload_n rfl rfl ?_
  refine tl_iald (n := 66) rfl rfl rfl (by omega) (by omega) ?_
  rw [Int.toNat_natCast, t2]
  refine tl_iadd rfl ?_
  refine tl_iret rfl ?_
  -- leaf 0 at 13
  exact ⟨_, rfl, rfl, rfl⟩
set_option maxRecDepth 20000 in
set_option maxHeartbeats 1000000 in
theorem r_awayOf (l : Launch) (h T : jH) (a : Nat) (a66 : a < 66) (t0 : h 398 a = T 0 a) (t1 : h 399 a = T 1 a) : cI l 249 [.ref 388, .int (jI (a : Int))] h (fun z h' => h' = h ∧ z = aW T a) := by
  refine cI.of rfl rfl ?_
  refine tl_aload_n rfl rfl ?_
  refine tl_getr (c := 12) (k9 := 18) (b := 399) rfl rfl rfl rfl ?_
  refine tl_iload_n rfl rfl ?_
  refine tl_iald (n := 66) rfl rfl rfl (by omega) (by omega) ?_
  rw [Int.toNat_natCast, t1]
  refine tl_aload_n rfl rfl ?_
  refine tl_getr (c := 12) (k9 := 17) (b := 398) rfl rfl rfl rfl ?_
  show jT _ _ 10 _ _ _ _
  refine tl_iload_n rfl rfl ?_
  refine tl_iald (n := 66) rfl rfl rfl (by omega) (by omega) ?_
  rw [Int.toNat_natCast, t0]
  refine tl_isub rfl ?_
  refine tl_iret rfl ?_
  -- leaf 0 at 13
  exact ⟨_, rfl, rfl, rfl⟩
set_option maxRecDepth 20000 in
set_option maxHeartbeats 1000000 in
theorem r_fw_lp (l : Launch) (h : jH) (R : Nat → Int) (e390 : h 390 = R) (ok : Rok R) (hRt : Rt R) (T : jH) (n : Nat) (nx : Int) (ci : CI R T n nx) (hn : h 388 22 = (n : Int)) (t0 : ∀ i, i < n → h 398 i = T 0 i) (t1 : ∀ i, i < n → h 399 i = T 1 i) (t2 : ∀ i, i < n → h 400 i = T 2 i) (i : Nat) (hi9 : i < n) (P : Option Value → jH → Prop) (hP : P (some (.int (jI (fw R T n i)))) h) : ∀ (m : Nat) (k : Nat), 64 - k < m → (k ≤ 64 ∧ ∀ j, j < k → fwP R T n i j = true) → jT l 250 42 [some (.ref 388), some (.int (jI ((i : Int)))), some (.int (jI (aL R T n i))), some (.int (jI (bsM (fwF R T i) k))), some (.int (jI (bsI (fwF R T i) k))), some (.int (jI (bsS (fwF R T i) k))), some (.int (jI (aE T i + ((k : Nat) : Int))))] [] h P := by
  have ok9 := ok
  obtain ⟨k1, k2, k3, k4, k5, k6, k7⟩ := ok9
  have bd := ci.bds ok hi9
  have ll := ci.lim hi9
  have n33 := ci.n33 ok
  intro m
  induction m with
  | zero => intro k hk; omega
  | succ m ih =>
    intro k hk hi
    obtain ⟨i0, i1⟩ := hi
    have bb := bs_b (f := (fwF R T i)) (c := 9) (fun j => ws_b hRt _ _) (by omega) k
    have es : bsS (fwF R T i) (k + 1) = bsS (fwF R T i) k + (fwF R T i) k := rfl
    have em : bsM (fwF R T i) (k + 1) = if bsM (fwF R T i) k < bsS (fwF R T i) (k + 1) then bsS (fwF R T i) (k + 1) else bsM (fwF R T i) k := rfl
    have ei : bsI (fwF R T i) (k + 1) = if bsM (fwF R T i) k < bsS (fwF R T i) (k + 1) then (k : Int) + 1 else bsI (fwF R T i) k := rfl
    have wb : -9 ≤ (fwF R T i) k ∧ (fwF R T i) k ≤ 9 := ws_b hRt _ _
    have wf : fwF R T i k = ws R (aE T i + (k : Int)) (aE T i + (k : Int) + aW T i) := rfl
    refine tl_iload rfl rfl ?_
    refine tl_iload_n rfl rfl ?_
    refine tl_icmp_ge (tgt := 122) rfl rfl ⟨by omega, by omega⟩ ⟨by omega, by omega⟩ (fun c1 => ?_) (fun c1 => ?_)
    · skip
      refine tl_iload rfl rfl ?_
      refine tl_iret rfl ?_
      -- leaf 0 at 124
      have e : fwN R T n i = k := fst_uniq (Nat.zero_le _) (by omega) (fun q _ hq => i1 q hq) (by first | exact fwP_f1 (by omega) | exact fwP_f2 e1)
      rw [fw, e] at hP
      exact hP
    · show jT _ _ 48 _ _ _ _
      refine tl_aload_n rfl rfl ?_
      show jT _ _ 49 _ _ _ _
      refine tl_iload rfl rfl ?_
      refine tl_aload_n rfl rfl ?_
      refine tl_iload_n rfl rfl ?_
      refine tl_v1i (c9 := 12) (r_awayOf l h T (i) (by omega) (t0 _ (by omega)) (t1 _ (by omega))) rfl rfl rfl rfl rfl (Nat.le_of_ble_eq_true rfl) (fun z1 h1 p1 => ?_)
      obtain ⟨q1, rfl⟩ := p1
      have q1 := q1.symm
      subst q1
      refine tl_iadd rfl ?_
      refine tl_v1i (c9 := 12) (r_canCopy l h R e390 ok (aE T i + (k : Int) + aW T i) ⟨by omega, by omega⟩) rfl rfl rfl rfl rfl (Nat.le_of_ble_eq_true rfl) (fun z2 h2 p2 => ?_)
      obtain ⟨q2, rfl⟩ := p2
      have q2 := q2.symm
      subst q2
      have b2 := zb_b (opn R (aE T i + (k : Int) + aW T i))
      refine tl_if_eq (tgt := 122) rfl rfl ⟨by omega, by omega⟩ (fun c2 => ?_) (fun c2 => ?_)
      · skip
        have e1 := zb0 c2
        show jT _ _ 122 _ _ _ _
        refine tl_iload rfl rfl ?_
        refine tl_iret rfl ?_
        -- leaf 1 at 124
        have e : fwN R T n i = k := fst_uniq (Nat.zero_le _) (by omega) (fun q _ hq => i1 q hq) (by first | exact fwP_f1 (by omega) | exact fwP_f2 e1)
        rw [fw, e] at hP
        exact hP
      · show jT _ _ 63 _ _ _ _
        have e1 := zb1' c2
        refine tl_iload rfl rfl ?_
        refine tl_aload_n rfl rfl ?_
        refine tl_iload rfl rfl ?_
        refine tl_iload rfl rfl ?_
        refine tl_aload_n rfl rfl ?_
        show jT _ _ 71 _ _ _ _
        refine tl_iload_n rfl rfl ?_
        refine tl_v1i (c9 := 12) (r_awayOf l h T (i) (by omega) (t0 _ (by omega)) (t1 _ (by omega))) rfl rfl rfl rfl rfl (Nat.le_of_ble_eq_true rfl) (fun z3 h3 p3 => ?_)
        obtain ⟨q3, rfl⟩ := p3
        have q3 := q3.symm
        subst q3
        refine tl_iadd rfl ?_
        refine tl_v2i (c9 := 12) (r_worth l h R e390 ok (aE T i + (k : Int)) (aE T i + (k : Int) + aW T i) (by omega) (by omega) e1) rfl rfl rfl rfl rfl (Nat.le_of_ble_eq_true rfl) (fun z4 h4 p4 => ?_)
        obtain ⟨q4, rfl⟩ := p4
        have q4 := q4.symm
        subst q4
        rw [← wf]
        refine tl_iadd rfl ?_
        refine tl_istore rfl (Nat.le_of_ble_eq_true rfl) rfl ?_
        refine tl_iinc rfl rfl rfl ?_
        show jT _ _ 85 _ _ _ _
        refine tl_iload rfl rfl ?_
        refine tl_iload_n rfl rfl ?_
        refine tl_icmp_le (tgt := 102) rfl rfl ⟨by omega, by omega⟩ ⟨by omega, by omega⟩ (fun c3 => ?_) (fun c3 => ?_)
        · skip
          refine tl_iload rfl rfl ?_
          refine tl_istore rfl (Nat.le_of_ble_eq_true rfl) rfl ?_
          refine tl_iload rfl rfl ?_
          refine tl_iload_n rfl rfl ?_
          show jT _ _ 109 _ _ _ _
          refine tl_icmp_le (tgt := 117) rfl rfl ⟨by omega, by omega⟩ ⟨by omega, by omega⟩ (fun c4 => ?_) (fun c4 => ?_)
          · skip
            refine tl_iload_n rfl rfl ?_
            refine tl_istore_n rfl (Nat.le_of_ble_eq_true rfl) rfl ?_
            refine tl_goto (tgt := 42) rfl rfl ?_
            show jT _ _ 42 _ _ _ _
            -- leaf 2 at 42
            have k63 : k < 64 := by
              by_cases c : k = 64
              · have := opn_64 ok (p := aE T i + (k : Int) + aW T i) (by omega)
                rw [e1] at this; exact absurd this (by decide)
              · omega
            first
              | (exfalso; omega)
              | (refine jT.loc ?_ (ih (k + 1) (by omega) ⟨by omega, fun q hq => ?_⟩)
                 · first | (rw [em, ei, if_pos (by omega), if_pos (by omega), show aE T i + ((k + 1 : Nat) : Int) = aE T i + (k : Int) + 1 by omega, show aE T i + (k : Int) + 1 - aE T i = (k : Int) + 1 by omega]; rfl) | (rw [em, ei, if_neg (by omega), if_neg (by omega), show aE T i + ((k + 1 : Nat) : Int) = aE T i + (k : Int) + 1 by omega]; rfl)
                 · by_cases c : q = k
                   · subst c; exact fwP_t' (by omega) e1
                   · exact i1 q (by omega))
          · show jT _ _ 112 _ _ _ _
            refine tl_iload rfl rfl ?_
            refine tl_goto (tgt := 118) rfl rfl ?_
            refine tl_istore_n rfl (Nat.le_of_ble_eq_true rfl) rfl ?_
            show jT _ _ 119 _ _ _ _
            refine tl_goto (tgt := 42) rfl rfl ?_
            show jT _ _ 42 _ _ _ _
            -- leaf 3 at 42
            have k63 : k < 64 := by
              by_cases c : k = 64
              · have := opn_64 ok (p := aE T i + (k : Int) + aW T i) (by omega)
                rw [e1] at this; exact absurd this (by decide)
              · omega
            first
              | (exfalso; omega)
              | (refine jT.loc ?_ (ih (k + 1) (by omega) ⟨by omega, fun q hq => ?_⟩)
                 · first | (rw [em, ei, if_pos (by omega), if_pos (by omega), show aE T i + ((k + 1 : Nat) : Int) = aE T i + (k : Int) + 1 by omega, show aE T i + (k : Int) + 1 - aE T i = (k : Int) + 1 by omega]; rfl) | (rw [em, ei, if_neg (by omega), if_neg (by omega), show aE T i + ((k + 1 : Nat) : Int) = aE T i + (k : Int) + 1 by omega]; rfl)
                 · by_cases c : q = k
                   · subst c; exact fwP_t' (by omega) e1
                   · exact i1 q (by omega))
        · show jT _ _ 91 _ _ _ _
          refine tl_iload rfl rfl ?_
          refine tl_aload_n rfl rfl ?_
          refine tl_iload_n rfl rfl ?_
          refine tl_v1i (c9 := 12) (r_endOf l h T (i) (by omega) (t0 _ (by omega)) (t2 _ (by omega))) rfl rfl rfl rfl rfl (Nat.le_of_ble_eq_true rfl) (fun z5 h5 p5 => ?_)
          obtain ⟨q5, rfl⟩ := p5
          have q5 := q5.symm
          subst q5
          refine tl_isub rfl ?_
          refine tl_goto (tgt := 104) rfl rfl ?_
          show jT _ _ 104 _ _ _ _
          refine tl_istore rfl (Nat.le_of_ble_eq_true rfl) rfl ?_
          refine tl_iload rfl rfl ?_
          refine tl_iload_n rfl rfl ?_
          refine tl_icmp_le (tgt := 117) rfl rfl ⟨by omega, by omega⟩ ⟨by omega, by omega⟩ (fun c5 => ?_) (fun c5 => ?_)
          · skip
            refine tl_iload_n rfl rfl ?_
            refine tl_istore_n rfl (Nat.le_of_ble_eq_true rfl) rfl ?_
            refine tl_goto (tgt := 42) rfl rfl ?_
            show jT _ _ 42 _ _ _ _
            -- leaf 4 at 42
            have k63 : k < 64 := by
              by_cases c : k = 64
              · have := opn_64 ok (p := aE T i + (k : Int) + aW T i) (by omega)
                rw [e1] at this; exact absurd this (by decide)
              · omega
            first
              | (exfalso; omega)
              | (refine jT.loc ?_ (ih (k + 1) (by omega) ⟨by omega, fun q hq => ?_⟩)
                 · first | (rw [em, ei, if_pos (by omega), if_pos (by omega), show aE T i + ((k + 1 : Nat) : Int) = aE T i + (k : Int) + 1 by omega, show aE T i + (k : Int) + 1 - aE T i = (k : Int) + 1 by omega]; rfl) | (rw [em, ei, if_neg (by omega), if_neg (by omega), show aE T i + ((k + 1 : Nat) : Int) = aE T i + (k : Int) + 1 by omega]; rfl)
                 · by_cases c : q = k
                   · subst c; exact fwP_t' (by omega) e1
                   · exact i1 q (by omega))
          · show jT _ _ 112 _ _ _ _
            show jT _ _ 112 _ _ _ _
            refine tl_iload rfl rfl ?_
            refine tl_goto (tgt := 118) rfl rfl ?_
            refine tl_istore_n rfl (Nat.le_of_ble_eq_true rfl) rfl ?_
            refine tl_goto (tgt := 42) rfl rfl ?_
            show jT _ _ 42 _ _ _ _
            -- leaf 5 at 42
            have k63 : k < 64 := by
              by_cases c : k = 64
              · have := opn_64 ok (p := aE T i + (k : Int) + aW T i) (by omega)
                rw [e1] at this; exact absurd this (by decide)
              · omega
            first
              | (exfalso; omega)
              | (refine jT.loc ?_ (ih (k + 1) (by omega) ⟨by omega, fun q hq => ?_⟩)
                 · first | (rw [em, ei, if_pos (by omega), if_pos (by omega), show aE T i + ((k + 1 : Nat) : Int) = aE T i + (k : Int) + 1 by omega, show aE T i + (k : Int) + 1 - aE T i = (k : Int) + 1 by omega]; rfl) | (rw [em, ei, if_neg (by omega), if_neg (by omega), show aE T i + ((k + 1 : Nat) : Int) = aE T i + (k : Int) + 1 by omega]; rfl)
                 · by_cases c : q = k
                   · subst c; exact fwP_t' (by omega) e1
                   · exact i1 q (by omega))
set_option maxRecDepth 20000 in
set_option maxHeartbeats 1000000 in
theorem r_reachF (l : Launch) (h : jH) (R : Nat → Int) (e390 : h 390 = R) (ok : Rok R) (hRt : Rt R) (T : jH) (n : Nat) (nx : Int) (ci : CI R T n nx) (hn : h 388 22 = (n : Int)) (t0 : ∀ i, i < n → h 398 i = T 0 i) (t1 : ∀ i, i < n → h 399 i = T 1 i) (t2 : ∀ i, i < n → h 400 i = T 2 i) (i : Nat) (hi9 : i < n) : cI l 250 [.ref 388, .int (jI (i : Int))] h (fun z h' => h' = h ∧ z = fw R T n i) := by
  have ok9 := ok
  obtain ⟨k1, k2, k3, k4, k5, k6, k7⟩ := ok9
  have bd := ci.bds ok hi9
  have ll := ci.lim hi9
  have n33 := ci.n33 ok
  refine cI.of rfl rfl ?_
  refine tl_iload_n rfl rfl ?_
  refine tl_iconst rfl ?_
  refine tl_iadd rfl ?_
  refine tl_aload_n rfl rfl ?_
  refine tl_geti (c := 12) (k9 := 22) rfl rfl rfl ?_
  rw [hn]
  refine tl_icmp_ge (tgt := 21) rfl rfl ⟨by omega, by omega⟩ ⟨by omega, by omega⟩ (fun c1 => ?_) (fun c1 => ?_)
  · skip
    show jT _ _ 21 _ _ _ _
    refine tl_aload_n rfl rfl ?_
    refine tl_iconst rfl ?_
    refine tl_v1i (c9 := 12) (c_sizeOf l _ 1 (by decide) (by decide)) rfl rfl rfl rfl rfl (Nat.le_of_ble_eq_true rfl) (fun z1 h1 p1 => ?_)
    obtain ⟨q1, rfl⟩ := p1
    have q1 := q1.symm
    subst q1
    rw [show (5 + 65 * 1 : Int).toNat = 70 from rfl]
    rw [e390]
    show jT _ _ 26 _ _ _ _
    -- leaf 0 at 26
    first | (rw [show T 0 (i + 1) = aL R T n i by rw [aL, if_pos (by omega)]]) | (rw [show R 70 = aL R T n i by rw [aL, if_neg (by omega)]])
    refine tl_istore_n rfl (Nat.le_of_ble_eq_true rfl) rfl ?_
    refine tl_iconst rfl ?_
    refine tl_istore_n rfl (Nat.le_of_ble_eq_true rfl) rfl ?_
    refine tl_iconst rfl ?_
    refine tl_istore rfl (Nat.le_of_ble_eq_true rfl) rfl ?_
    refine tl_iconst rfl ?_
    show jT _ _ 33 _ _ _ _
    refine tl_istore rfl (Nat.le_of_ble_eq_true rfl) rfl ?_
    refine tl_aload_n rfl rfl ?_
    refine tl_iload_n rfl rfl ?_
    refine tl_v1i (c9 := 12) (r_endOf l h T (i) (by omega) (t0 _ (by omega)) (t2 _ (by omega))) rfl rfl rfl rfl rfl (Nat.le_of_ble_eq_true rfl) (fun z2 h2 p2 => ?_)
    obtain ⟨q2, rfl⟩ := p2
    have q2 := q2.symm
    subst q2
    refine tl_istore rfl (Nat.le_of_ble_eq_true rfl) rfl ?_
    show jT _ _ 42 _ _ _ _
    -- leaf 0 at 42
    refine jT.loc ?_ (r_fw_lp l h R e390 ok hRt T n nx ci hn t0 t1 t2 i hi9 _ ⟨_, rfl, rfl, rfl⟩ _ 0 (Nat.lt_succ_self _) ⟨Nat.zero_le _, fun j hj => by omega⟩)
    rw [show aE T i + ((0 : Nat) : Int) = aE T i by omega]
    rfl
  · show jT _ _ 10 _ _ _ _
    refine tl_aload_n rfl rfl ?_
    refine tl_getr (c := 12) (k9 := 17) (b := 398) rfl rfl rfl rfl ?_
    refine tl_iload_n rfl rfl ?_
    refine tl_iconst rfl ?_
    show jT _ _ 16 _ _ _ _
    refine tl_iadd rfl ?_
    refine tl_iald (n := 66) rfl rfl rfl (by omega) (by omega) ?_
    rw [show ((i : Int) + 1).toNat = i + 1 by omega, t0 (i + 1) (by omega)]
    refine tl_goto (tgt := 26) rfl rfl ?_
    show jT _ _ 26 _ _ _ _
    -- leaf 1 at 26
    first | (rw [show T 0 (i + 1) = aL R T n i by rw [aL, if_pos (by omega)]]) | (rw [show R 70 = aL R T n i by rw [aL, if_neg (by omega)]])
    refine tl_istore_n rfl (Nat.le_of_ble_eq_true rfl) rfl ?_
    refine tl_iconst rfl ?_
    refine tl_istore_n rfl (Nat.le_of_ble_eq_true rfl) rfl ?_
    refine tl_iconst rfl ?_
    refine tl_istore rfl (Nat.le_of_ble_eq_true rfl) rfl ?_
    refine tl_iconst rfl ?_
    show jT _ _ 33 _ _ _ _
    refine tl_istore rfl (Nat.le_of_ble_eq_true rfl) rfl ?_
    refine tl_aload_n rfl rfl ?_
    refine tl_iload_n rfl rfl ?_
    refine tl_v1i (c9 := 12) (r_endOf l h T (i) (by omega) (t0 _ (by omega)) (t2 _ (by omega))) rfl rfl rfl rfl rfl (Nat.le_of_ble_eq_true rfl) (fun z2 h2 p2 => ?_)
    obtain ⟨q2, rfl⟩ := p2
    have q2 := q2.symm
    subst q2
    refine tl_istore rfl (Nat.le_of_ble_eq_true rfl) rfl ?_
    show jT _ _ 42 _ _ _ _
    -- leaf 0 at 42
    refine jT.loc ?_ (r_fw_lp l h R e390 ok hRt T n nx ci hn t0 t1 t2 i hi9 _ ⟨_, rfl, rfl, rfl⟩ _ 0 (Nat.lt_succ_self _) ⟨Nat.zero_le _, fun j hj => by omega⟩)
    rw [show aE T i + ((0 : Nat) : Int) = aE T i by omega]
    rfl
set_option maxRecDepth 20000 in
set_option maxHeartbeats 1000000 in
theorem r_bk_lp (l : Launch) (h : jH) (R : Nat → Int) (e390 : h 390 = R) (ok : Rok R) (hRt : Rt R) (T : jH) (n : Nat) (nx : Int) (ci : CI R T n nx) (hn : h 388 22 = (n : Int)) (t0 : ∀ i, i < n → h 398 i = T 0 i) (t1 : ∀ i, i < n → h 399 i = T 1 i) (t2 : ∀ i, i < n → h 400 i = T 2 i) (i : Nat) (hi9 : i < n) (i09 : i ≠ 0) (P : Option Value → jH → Prop) (hP : P (some (.int (jI (bk R T i)))) h) : ∀ (m : Nat) (k : Nat), 64 - k < m → (k ≤ 64 ∧ ∀ j, j < k → bkP R T i j = true) → jT l 251 17 [some (.ref 388), some (.int (jI ((i : Int)))), some (.int (jI (bsM (bkF R T i) k))), some (.int (jI (bsI (bkF R T i) k))), some (.int (jI (bsS (bkF R T i) k))), some (.int (jI (T 0 i - 1 - ((k : Nat) : Int))))] [] h P := by
  have ok9 := ok
  obtain ⟨k1, k2, k3, k4, k5, k6, k7⟩ := ok9
  have bd := ci.bds ok hi9
  have ll := ci.lim hi9
  have n33 := ci.n33 ok
  have bd2 := ci.bds ok (i := i - 1) (by omega)
  intro m
  induction m with
  | zero => intro k hk; omega
  | succ m ih =>
    intro k hk hi
    obtain ⟨i0, i1⟩ := hi
    have bb := bs_b (f := (bkF R T i)) (c := 9) (fun j => ws_b hRt _ _) (by omega) k
    have es : bsS (bkF R T i) (k + 1) = bsS (bkF R T i) k + (bkF R T i) k := rfl
    have em : bsM (bkF R T i) (k + 1) = if bsM (bkF R T i) k < bsS (bkF R T i) (k + 1) then bsS (bkF R T i) (k + 1) else bsM (bkF R T i) k := rfl
    have ei : bsI (bkF R T i) (k + 1) = if bsM (bkF R T i) k < bsS (bkF R T i) (k + 1) then (k : Int) + 1 else bsI (bkF R T i) k := rfl
    have wb : -9 ≤ (bkF R T i) k ∧ (bkF R T i) k ≤ 9 := ws_b hRt _ _
    have ep : T 0 i - 1 - (k : Int) + aW T i = T 1 i - 1 - (k : Int) := by omega
    have wf : bkF R T i k = ws R (T 0 i - 1 - (k : Int)) (T 1 i - 1 - (k : Int)) := rfl
    refine tl_iload rfl rfl ?_
    refine tl_aload_n rfl rfl ?_
    refine tl_iload_n rfl rfl ?_
    refine tl_iconst rfl ?_
    refine tl_isub rfl ?_
    rw [show (i : Int) - 1 = ((i - 1 : Nat) : Int) by omega]
    refine tl_v1i (c9 := 12) (r_endOf l h T (i - 1) (by omega) (t0 _ (by omega)) (t2 _ (by omega))) rfl rfl rfl rfl rfl (Nat.le_of_ble_eq_true rfl) (fun z1 h1 p1 => ?_)
    obtain ⟨q1, rfl⟩ := p1
    have q1 := q1.symm
    subst q1
    show jT _ _ 26 _ _ _ _
    refine tl_icmp_lt (tgt := 102) rfl rfl ⟨by omega, by omega⟩ ⟨by omega, by omega⟩ (fun c1 => ?_) (fun c1 => ?_)
    · skip
      refine tl_iload_n rfl rfl ?_
      refine tl_iret rfl ?_
      -- leaf 0 at 103
      have e : bkN R T i = k := fst_uniq (Nat.zero_le _) (by omega) (fun q _ hq => i1 q hq) (by first | exact bkP_f1 (by omega) | exact bkP_f2 e1)
      rw [bk, if_neg i09, e] at hP
      exact hP
    · show jT _ _ 29 _ _ _ _
      refine tl_aload_n rfl rfl ?_
      refine tl_iload rfl rfl ?_
      refine tl_aload_n rfl rfl ?_
      refine tl_iload_n rfl rfl ?_
      show jT _ _ 34 _ _ _ _
      refine tl_v1i (c9 := 12) (r_awayOf l h T (i) (by omega) (t0 _ (by omega)) (t1 _ (by omega))) rfl rfl rfl rfl rfl (Nat.le_of_ble_eq_true rfl) (fun z2 h2 p2 => ?_)
      obtain ⟨q2, rfl⟩ := p2
      have q2 := q2.symm
      subst q2
      refine tl_iadd rfl ?_
      rw [ep]
      refine tl_v1i (c9 := 12) (r_canCopy l h R e390 ok (T 1 i - 1 - (k : Int)) ⟨by omega, by omega⟩) rfl rfl rfl rfl rfl (Nat.le_of_ble_eq_true rfl) (fun z3 h3 p3 => ?_)
      obtain ⟨q3, rfl⟩ := p3
      have q3 := q3.symm
      subst q3
      have b3 := zb_b (opn R (T 1 i - 1 - (k : Int)))
      refine tl_if_eq (tgt := 102) rfl rfl ⟨by omega, by omega⟩ (fun c2 => ?_) (fun c2 => ?_)
      · skip
        have e1 := zb0 c2
        refine tl_iload_n rfl rfl ?_
        refine tl_iret rfl ?_
        -- leaf 1 at 103
        have e : bkN R T i = k := fst_uniq (Nat.zero_le _) (by omega) (fun q _ hq => i1 q hq) (by first | exact bkP_f1 (by omega) | exact bkP_f2 e1)
        rw [bk, if_neg i09, e] at hP
        exact hP
      · show jT _ _ 44 _ _ _ _
        have e1 := zb1' c2
        refine tl_iload rfl rfl ?_
        show jT _ _ 46 _ _ _ _
        refine tl_aload_n rfl rfl ?_
        refine tl_iload rfl rfl ?_
        refine tl_iload rfl rfl ?_
        refine tl_aload_n rfl rfl ?_
        refine tl_iload_n rfl rfl ?_
        refine tl_v1i (c9 := 12) (r_awayOf l h T (i) (by omega) (t0 _ (by omega)) (t1 _ (by omega))) rfl rfl rfl rfl rfl (Nat.le_of_ble_eq_true rfl) (fun z4 h4 p4 => ?_)
        obtain ⟨q4, rfl⟩ := p4
        have q4 := q4.symm
        subst q4
        refine tl_iadd rfl ?_
        rw [ep]
        show jT _ _ 57 _ _ _ _
        refine tl_v2i (c9 := 12) (r_worth l h R e390 ok (T 0 i - 1 - (k : Int)) (T 1 i - 1 - (k : Int)) (by omega) (by omega) e1) rfl rfl rfl rfl rfl (Nat.le_of_ble_eq_true rfl) (fun z5 h5 p5 => ?_)
        obtain ⟨q5, rfl⟩ := p5
        have q5 := q5.symm
        subst q5
        rw [← wf]
        refine tl_iadd rfl ?_
        refine tl_istore rfl (Nat.le_of_ble_eq_true rfl) rfl ?_
        refine tl_iload rfl rfl ?_
        refine tl_iload_n rfl rfl ?_
        refine tl_icmp_le (tgt := 81) rfl rfl ⟨by omega, by omega⟩ ⟨by omega, by omega⟩ (fun c3 => ?_) (fun c3 => ?_)
        · skip
          refine tl_iload_n rfl rfl ?_
          show jT _ _ 82 _ _ _ _
          refine tl_istore_n rfl (Nat.le_of_ble_eq_true rfl) rfl ?_
          refine tl_iload rfl rfl ?_
          refine tl_iload_n rfl rfl ?_
          refine tl_icmp_le (tgt := 94) rfl rfl ⟨by omega, by omega⟩ ⟨by omega, by omega⟩ (fun c4 => ?_) (fun c4 => ?_)
          · skip
            refine tl_iload_n rfl rfl ?_
            refine tl_istore_n rfl (Nat.le_of_ble_eq_true rfl) rfl ?_
            refine tl_iinc rfl rfl rfl ?_
            show jT _ _ 99 _ _ _ _
            refine tl_goto (tgt := 17) rfl rfl ?_
            show jT _ _ 17 _ _ _ _
            -- leaf 2 at 17
            have k63 : k < 64 := by
              have := opn_t e1
              omega
            first
              | (exfalso; omega)
              | (refine jT.loc ?_ (ih (k + 1) (by omega) ⟨by omega, fun q hq => ?_⟩)
                 · first | (rw [em, ei, if_pos (by omega), if_pos (by omega), show T 0 i - 1 - ((k + 1 : Nat) : Int) = T 0 i - 1 - (k : Int) + -1 by omega, show T 0 i - (T 0 i - 1 - (k : Int)) = (k : Int) + 1 by omega]; rfl) | (rw [em, ei, if_neg (by omega), if_neg (by omega), show T 0 i - 1 - ((k + 1 : Nat) : Int) = T 0 i - 1 - (k : Int) + -1 by omega]; rfl)
                 · by_cases c : q = k
                   · subst c; exact bkP_t' (by omega) e1
                   · exact i1 q (by omega))
          · show jT _ _ 89 _ _ _ _
            refine tl_iload rfl rfl ?_
            refine tl_goto (tgt := 95) rfl rfl ?_
            refine tl_istore_n rfl (Nat.le_of_ble_eq_true rfl) rfl ?_
            refine tl_iinc rfl rfl rfl ?_
            refine tl_goto (tgt := 17) rfl rfl ?_
            show jT _ _ 17 _ _ _ _
            -- leaf 3 at 17
            have k63 : k < 64 := by
              have := opn_t e1
              omega
            first
              | (exfalso; omega)
              | (refine jT.loc ?_ (ih (k + 1) (by omega) ⟨by omega, fun q hq => ?_⟩)
                 · first | (rw [em, ei, if_pos (by omega), if_pos (by omega), show T 0 i - 1 - ((k + 1 : Nat) : Int) = T 0 i - 1 - (k : Int) + -1 by omega, show T 0 i - (T 0 i - 1 - (k : Int)) = (k : Int) + 1 by omega]; rfl) | (rw [em, ei, if_neg (by omega), if_neg (by omega), show T 0 i - 1 - ((k + 1 : Nat) : Int) = T 0 i - 1 - (k : Int) + -1 by omega]; rfl)
                 · by_cases c : q = k
                   · subst c; exact bkP_t' (by omega) e1
                   · exact i1 q (by omega))
        · show jT _ _ 69 _ _ _ _
          refine tl_aload_n rfl rfl ?_
          show jT _ _ 70 _ _ _ _
          refine tl_getr (c := 12) (k9 := 17) (b := 398) rfl rfl rfl rfl ?_
          refine tl_iload_n rfl rfl ?_
          refine tl_iald (n := 66) rfl rfl rfl (by omega) (by omega) ?_
          rw [Int.toNat_natCast, t0 i hi9]
          refine tl_iload rfl rfl ?_
          refine tl_isub rfl ?_
          refine tl_goto (tgt := 82) rfl rfl ?_
          refine tl_istore_n rfl (Nat.le_of_ble_eq_true rfl) rfl ?_
          show jT _ _ 83 _ _ _ _
          refine tl_iload rfl rfl ?_
          refine tl_iload_n rfl rfl ?_
          refine tl_icmp_le (tgt := 94) rfl rfl ⟨by omega, by omega⟩ ⟨by omega, by omega⟩ (fun c5 => ?_) (fun c5 => ?_)
          · skip
            refine tl_iload_n rfl rfl ?_
            refine tl_istore_n rfl (Nat.le_of_ble_eq_true rfl) rfl ?_
            refine tl_iinc rfl rfl rfl ?_
            refine tl_goto (tgt := 17) rfl rfl ?_
            show jT _ _ 17 _ _ _ _
            -- leaf 4 at 17
            have k63 : k < 64 := by
              have := opn_t e1
              omega
            first
              | (exfalso; omega)
              | (refine jT.loc ?_ (ih (k + 1) (by omega) ⟨by omega, fun q hq => ?_⟩)
                 · first | (rw [em, ei, if_pos (by omega), if_pos (by omega), show T 0 i - 1 - ((k + 1 : Nat) : Int) = T 0 i - 1 - (k : Int) + -1 by omega, show T 0 i - (T 0 i - 1 - (k : Int)) = (k : Int) + 1 by omega]; rfl) | (rw [em, ei, if_neg (by omega), if_neg (by omega), show T 0 i - 1 - ((k + 1 : Nat) : Int) = T 0 i - 1 - (k : Int) + -1 by omega]; rfl)
                 · by_cases c : q = k
                   · subst c; exact bkP_t' (by omega) e1
                   · exact i1 q (by omega))
          · show jT _ _ 89 _ _ _ _
            show jT _ _ 89 _ _ _ _
            refine tl_iload rfl rfl ?_
            refine tl_goto (tgt := 95) rfl rfl ?_
            refine tl_istore_n rfl (Nat.le_of_ble_eq_true rfl) rfl ?_
            refine tl_iinc rfl rfl rfl ?_
            refine tl_goto (tgt := 17) rfl rfl ?_
            show jT _ _ 17 _ _ _ _
            -- leaf 5 at 17
            have k63 : k < 64 := by
              have := opn_t e1
              omega
            first
              | (exfalso; omega)
              | (refine jT.loc ?_ (ih (k + 1) (by omega) ⟨by omega, fun q hq => ?_⟩)
                 · first | (rw [em, ei, if_pos (by omega), if_pos (by omega), show T 0 i - 1 - ((k + 1 : Nat) : Int) = T 0 i - 1 - (k : Int) + -1 by omega, show T 0 i - (T 0 i - 1 - (k : Int)) = (k : Int) + 1 by omega]; rfl) | (rw [em, ei, if_neg (by omega), if_neg (by omega), show T 0 i - 1 - ((k + 1 : Nat) : Int) = T 0 i - 1 - (k : Int) + -1 by omega]; rfl)
                 · by_cases c : q = k
                   · subst c; exact bkP_t' (by omega) e1
                   · exact i1 q (by omega))
set_option maxRecDepth 20000 in
set_option maxHeartbeats 1000000 in
theorem r_reachB (l : Launch) (h : jH) (R : Nat → Int) (e390 : h 390 = R) (ok : Rok R) (hRt : Rt R) (T : jH) (n : Nat) (nx : Int) (ci : CI R T n nx) (hn : h 388 22 = (n : Int)) (t0 : ∀ i, i < n → h 398 i = T 0 i) (t1 : ∀ i, i < n → h 399 i = T 1 i) (t2 : ∀ i, i < n → h 400 i = T 2 i) (i : Nat) (hi9 : i < n) (i09 : i ≠ 0) : cI l 251 [.ref 388, .int (jI (i : Int))] h (fun z h' => h' = h ∧ z = bk R T i) := by
  have ok9 := ok
  obtain ⟨k1, k2, k3, k4, k5, k6, k7⟩ := ok9
  have bd := ci.bds ok hi9
  have ll := ci.lim hi9
  have n33 := ci.n33 ok
  have bd2 := ci.bds ok (i := i - 1) (by omega)
  refine cI.of rfl rfl ?_
  refine tl_iconst rfl ?_
  refine tl_istore_n rfl (Nat.le_of_ble_eq_true rfl) rfl ?_
  refine tl_iconst rfl ?_
  refine tl_istore_n rfl (Nat.le_of_ble_eq_true rfl) rfl ?_
  refine tl_iconst rfl ?_
  refine tl_istore rfl (Nat.le_of_ble_eq_true rfl) rfl ?_
  show jT _ _ 7 _ _ _ _
  refine tl_aload_n rfl rfl ?_
  refine tl_getr (c := 12) (k9 := 17) (b := 398) rfl rfl rfl rfl ?_
  refine tl_iload_n rfl rfl ?_
  refine tl_iald (n := 66) rfl rfl rfl (by omega) (by omega) ?_
  rw [Int.toNat_natCast, t0 i hi9]
  refine tl_iconst rfl ?_
  refine tl_isub rfl ?_
  refine tl_istore rfl (Nat.le_of_ble_eq_true rfl) rfl ?_
  show jT _ _ 17 _ _ _ _
  -- leaf 0 at 17
  refine jT.loc ?_ (r_bk_lp l h R e390 ok hRt T n nx ci hn t0 t1 t2 i hi9 i09 _ ⟨_, rfl, rfl, rfl⟩ _ 0 (Nat.lt_succ_self _) ⟨Nat.zero_le _, fun j hj => by omega⟩)
  rw [show T 0 i - 1 - ((0 : Nat) : Int) = T 0 i - 1 by omega]
  rfl
def shI (A B : Nat → Int) (s : Nat) : Nat → Int
  | 0 => 0
  | j + 1 => shI A B s j + (if j < s then A j else B j)
theorem shI_e (A B : Nat → Int) (s : Nat) : ∀ j : Nat, shI A B s j = bsS B j + bsS (fun q => A q - B q) (min j s) := by
  intro j
  induction j with
  | zero => rw [shI, bsS, show min 0 s = 0 by omega, bsS]; rfl
  | succ j ih =>
    rw [shI, ih, bsS]
    by_cases c : j < s
    · rw [if_pos c, show min j s = j by omega, show min (j + 1) s = j + 1 by omega, bsS]; omega
    · rw [if_neg c, show min j s = s by omega, show min (j + 1) s = s by omega]; omega
theorem shI_b {A B : Nat → Int} {s : Nat} (hA : ∀ j, -9 ≤ A j ∧ A j ≤ 9) (hB : ∀ j, -9 ≤ B j ∧ B j ≤ 9) : ∀ j : Nat, -(9 * (j : Int)) ≤ shI A B s j ∧ shI A B s j ≤ 9 * (j : Int) := by
  intro j
  induction j with
  | zero => rw [shI]; omega
  | succ j ih =>
    have a := hA j
    have b := hB j
    rw [shI]
    split <;> omega
def shA (R : Nat → Int) (T : jH) (i j : Nat) : Int := ws R ((T 0 (i + 1) - T 4 (i + 1)) + j) ((T 0 (i + 1) - T 4 (i + 1)) + j + aW T i)
def shB (R : Nat → Int) (T : jH) (i j : Nat) : Int := ws R ((T 0 (i + 1) - T 4 (i + 1)) + j) ((T 0 (i + 1) - T 4 (i + 1)) + j + aW T (i + 1))
def shb (R : Nat → Int) (T : jH) (i s : Nat) : Int := if s = 0 then 0 else bsI (shF R T i (T 0 (i + 1) - T 4 (i + 1))) (s - 1)
def shm (R : Nat → Int) (T : jH) (i s : Nat) : Int := if s = 0 then -1000000 else bsS (shB R T i) ((aE T i + T 3 i) - (T 0 (i + 1) - T 4 (i + 1))).toNat + bsM (shF R T i (T 0 (i + 1) - T 4 (i + 1))) (s - 1)
set_option maxRecDepth 20000 in
set_option maxHeartbeats 1000000 in
theorem r_sh_in (l : Launch) (h : jH) (R : Nat → Int) (e390 : h 390 = R) (ok : Rok R) (hRt : Rt R) (T : jH) (n : Nat) (ti : TI R T n) (hn : h 388 22 = (n : Int)) (tk : ∀ r, r < 5 → ∀ i, i < n → h (398 + r) i = T r i) (i : Nat) (hi9 : i + 1 < n) (s : Nat) (s65 : s ≤ 65) (hlt : (T 0 (i + 1) - T 4 (i + 1)) < (aE T i + T 3 i)) (P : Option Value → jH → Prop) (hx : ∀ q, jT l 252 110 [some (.ref 388), some (.int (jI ((i : Int)))), some (.int (jI ((i : Int) + 1))), some (.int (jI ((T 0 (i + 1) - T 4 (i + 1))))), some (.int (jI ((aE T i + T 3 i)))), some (.int (jI (shb R T i s))), some (.int (jI (shm R T i s))), some (.int (jI (((s : Nat) : Int)))), some (.int (jI (shI (shA R T i) (shB R T i) s ((aE T i + T 3 i) - (T 0 (i + 1) - T 4 (i + 1))).toNat))), q] [] h P) : ∀ (m : Nat) (k : Nat), ((aE T i + T 3 i) - (T 0 (i + 1) - T 4 (i + 1))).toNat - k < m → (k ≤ ((aE T i + T 3 i) - (T 0 (i + 1) - T 4 (i + 1))).toNat) → jT l 252 61 [some (.ref 388), some (.int (jI ((i : Int)))), some (.int (jI ((i : Int) + 1))), some (.int (jI ((T 0 (i + 1) - T 4 (i + 1))))), some (.int (jI ((aE T i + T 3 i)))), some (.int (jI (shb R T i s))), some (.int (jI (shm R T i s))), some (.int (jI (((s : Nat) : Int)))), some (.int (jI (shI (shA R T i) (shB R T i) s k))), some (.int (jI ((T 0 (i + 1) - T 4 (i + 1)) + (k : Int))))] [] h P := by
  have ok9 := ok
  obtain ⟨k1, k2, k3, k4, k5, k6, k7⟩ := ok9
  have bd := ti.1.bds ok (i := i) (by omega)
  have bd2 := ti.1.bds ok hi9
  have n33 := ti.1.n33 ok
  have r1 := ti.2 i (by omega)
  have r2 := ti.2 (i + 1) hi9
  rw [aL, if_pos hi9] at r1
  rw [if_neg (by omega), show i + 1 - 1 = i by omega] at r2
  obtain ⟨⟨r11, r12⟩, ⟨r13, r14⟩, r15⟩ := r1
  obtain ⟨⟨r21, r22⟩, ⟨r23, r24⟩, r25⟩ := r2
  have s2 := (ti.1.lim hi9).2
  have s1 := (ti.1.lim hi9).1
  have hA : ∀ j, -9 ≤ shA R T i j ∧ shA R T i j ≤ 9 := fun j => ws_b hRt _ _
  have hB : ∀ j, -9 ≤ shB R T i j ∧ shB R T i j ≤ 9 := fun j => ws_b hRt _ _
  intro m
  induction m with
  | zero => intro k hk; omega
  | succ m ih =>
    intro k hk hi
    have sb := shI_b (s := s) hA hB k
    have se : shI (shA R T i) (shB R T i) s (k + 1) = shI (shA R T i) (shB R T i) s k + (if k < s then (shA R T i) k else (shB R T i) k) := rfl
    have wA : (shA R T i) k = ws R ((T 0 (i + 1) - T 4 (i + 1)) + (k : Int)) ((T 0 (i + 1) - T 4 (i + 1)) + (k : Int) + aW T i) := rfl
    have wB : (shB R T i) k = ws R ((T 0 (i + 1) - T 4 (i + 1)) + (k : Int)) ((T 0 (i + 1) - T 4 (i + 1)) + (k : Int) + aW T (i + 1)) := rfl
    refine tl_iload rfl rfl ?_
    refine tl_iload rfl rfl ?_
    refine tl_icmp_ge (tgt := 110) rfl rfl ⟨by omega, by omega⟩ ⟨by omega, by omega⟩ (fun c1 => ?_) (fun c1 => ?_)
    · skip
      show jT _ _ 110 _ _ _ _
      -- leaf 0 at 110
      have e : k = ((aE T i + T 3 i) - (T 0 (i + 1) - T 4 (i + 1))).toNat := by omega
      rw [e]
      exact hx _
    · show jT _ _ 68 _ _ _ _
      refine tl_iload rfl rfl ?_
      refine tl_aload_n rfl rfl ?_
      refine tl_iload rfl rfl ?_
      show jT _ _ 73 _ _ _ _
      refine tl_iload rfl rfl ?_
      refine tl_iload rfl rfl ?_
      refine tl_iload_n rfl rfl ?_
      refine tl_iload rfl rfl ?_
      refine tl_iadd rfl ?_
      refine tl_icmp_ge (tgt := 92) rfl rfl ⟨by omega, by omega⟩ ⟨by omega, by omega⟩ (fun c2 => ?_) (fun c2 => ?_)
      · skip
        refine tl_aload_n rfl rfl ?_
        show jT _ _ 93 _ _ _ _
        refine tl_iload_n rfl rfl ?_
        refine tl_v1i (c9 := 12) (r_awayOf l h T (i + 1) (by omega) (tk 0 (by omega) _ (by omega)) (tk 1 (by omega) _ (by omega))) rfl rfl rfl rfl rfl (Nat.le_of_ble_eq_true rfl) (fun z2 h2 p2 => ?_)
        obtain ⟨q2, rfl⟩ := p2
        have q2 := q2.symm
        subst q2
        show jT _ _ 97 _ _ _ _
        -- leaf 1 at 97
        first
          | (rw [if_pos (by omega)] at se
             refine tl_iadd rfl ?_
             refine tl_v2i (c9 := 12) (r_worth l h R e390 ok ((T 0 (i + 1) - T 4 (i + 1)) + (k : Int)) ((T 0 (i + 1) - T 4 (i + 1)) + (k : Int) + aW T i) (by omega) (by omega) (r15 ((T 0 (i + 1) - T 4 (i + 1)) + (k : Int)) (by omega) (by omega))) rfl rfl rfl rfl rfl (Nat.le_of_ble_eq_true rfl) (fun z3 h3 p3 => ?_)
             obtain ⟨q3, rfl⟩ := p3
             have q3 := q3.symm
             subst q3
             refine tl_iadd rfl ?_
             refine tl_istore rfl (Nat.le_of_ble_eq_true rfl) rfl ?_
             refine tl_iinc rfl rfl rfl ?_
             refine tl_goto (tgt := 61) rfl rfl ?_
             show jT _ _ 61 _ _ _ _
             -- leaf 0 at 61
             refine jT.loc ?_ (ih (k + 1) (by omega) (by omega))
             rw [se, wA, show (T 0 (i + 1) - T 4 (i + 1)) + ((k + 1 : Nat) : Int) = (T 0 (i + 1) - T 4 (i + 1)) + (k : Int) + 1 by omega]
             rfl)
          | (rw [if_neg (by omega)] at se
             refine tl_iadd rfl ?_
             refine tl_v2i (c9 := 12) (r_worth l h R e390 ok ((T 0 (i + 1) - T 4 (i + 1)) + (k : Int)) ((T 0 (i + 1) - T 4 (i + 1)) + (k : Int) + aW T (i + 1)) (by omega) (by omega) (r25 ((T 0 (i + 1) - T 4 (i + 1)) + (k : Int)) (by omega) (by omega))) rfl rfl rfl rfl rfl (Nat.le_of_ble_eq_true rfl) (fun z3 h3 p3 => ?_)
             obtain ⟨q3, rfl⟩ := p3
             have q3 := q3.symm
             subst q3
             refine tl_iadd rfl ?_
             refine tl_istore rfl (Nat.le_of_ble_eq_true rfl) rfl ?_
             refine tl_iinc rfl rfl rfl ?_
             refine tl_goto (tgt := 61) rfl rfl ?_
             show jT _ _ 61 _ _ _ _
             -- leaf 0 at 61
             refine jT.loc ?_ (ih (k + 1) (by omega) (by omega))
             rw [se, wB, show (T 0 (i + 1) - T 4 (i + 1)) + ((k + 1 : Nat) : Int) = (T 0 (i + 1) - T 4 (i + 1)) + (k : Int) + 1 by omega]
             rfl)
      · show jT _ _ 84 _ _ _ _
        refine tl_aload_n rfl rfl ?_
        refine tl_iload_n rfl rfl ?_
        refine tl_v1i (c9 := 12) (r_awayOf l h T (i) (by omega) (tk 0 (by omega) _ (by omega)) (tk 1 (by omega) _ (by omega))) rfl rfl rfl rfl rfl (Nat.le_of_ble_eq_true rfl) (fun z1 h1 p1 => ?_)
        obtain ⟨q1, rfl⟩ := p1
        have q1 := q1.symm
        subst q1
        refine tl_goto (tgt := 97) rfl rfl ?_
        show jT _ _ 97 _ _ _ _
        -- leaf 2 at 97
        first
          | (rw [if_pos (by omega)] at se
             refine tl_iadd rfl ?_
             refine tl_v2i (c9 := 12) (r_worth l h R e390 ok ((T 0 (i + 1) - T 4 (i + 1)) + (k : Int)) ((T 0 (i + 1) - T 4 (i + 1)) + (k : Int) + aW T i) (by omega) (by omega) (r15 ((T 0 (i + 1) - T 4 (i + 1)) + (k : Int)) (by omega) (by omega))) rfl rfl rfl rfl rfl (Nat.le_of_ble_eq_true rfl) (fun z3 h3 p3 => ?_)
             obtain ⟨q3, rfl⟩ := p3
             have q3 := q3.symm
             subst q3
             refine tl_iadd rfl ?_
             refine tl_istore rfl (Nat.le_of_ble_eq_true rfl) rfl ?_
             refine tl_iinc rfl rfl rfl ?_
             refine tl_goto (tgt := 61) rfl rfl ?_
             show jT _ _ 61 _ _ _ _
             -- leaf 0 at 61
             refine jT.loc ?_ (ih (k + 1) (by omega) (by omega))
             rw [se, wA, show (T 0 (i + 1) - T 4 (i + 1)) + ((k + 1 : Nat) : Int) = (T 0 (i + 1) - T 4 (i + 1)) + (k : Int) + 1 by omega]
             rfl)
          | (rw [if_neg (by omega)] at se
             refine tl_iadd rfl ?_
             refine tl_v2i (c9 := 12) (r_worth l h R e390 ok ((T 0 (i + 1) - T 4 (i + 1)) + (k : Int)) ((T 0 (i + 1) - T 4 (i + 1)) + (k : Int) + aW T (i + 1)) (by omega) (by omega) (r25 ((T 0 (i + 1) - T 4 (i + 1)) + (k : Int)) (by omega) (by omega))) rfl rfl rfl rfl rfl (Nat.le_of_ble_eq_true rfl) (fun z3 h3 p3 => ?_)
             obtain ⟨q3, rfl⟩ := p3
             have q3 := q3.symm
             subst q3
             refine tl_iadd rfl ?_
             refine tl_istore rfl (Nat.le_of_ble_eq_true rfl) rfl ?_
             refine tl_iinc rfl rfl rfl ?_
             refine tl_goto (tgt := 61) rfl rfl ?_
             show jT _ _ 61 _ _ _ _
             -- leaf 0 at 61
             refine jT.loc ?_ (ih (k + 1) (by omega) (by omega))
             rw [se, wB, show (T 0 (i + 1) - T 4 (i + 1)) + ((k + 1 : Nat) : Int) = (T 0 (i + 1) - T 4 (i + 1)) + (k : Int) + 1 by omega]
             rfl)
set_option maxRecDepth 20000 in
set_option maxHeartbeats 1000000 in
theorem r_sh_out (l : Launch) (h : jH) (R : Nat → Int) (e390 : h 390 = R) (ok : Rok R) (hRt : Rt R) (T : jH) (n : Nat) (ti : TI R T n) (hn : h 388 22 = (n : Int)) (tk : ∀ r, r < 5 → ∀ i, i < n → h (398 + r) i = T r i) (i : Nat) (hi9 : i + 1 < n) (hlt : (T 0 (i + 1) - T 4 (i + 1)) < (aE T i + T 3 i)) (P : Option Value → jH → Prop) (hx : ∀ y8 y9, jT l 252 148 [some (.ref 388), some (.int (jI ((i : Int)))), some (.int (jI ((i : Int) + 1))), some (.int (jI ((T 0 (i + 1) - T 4 (i + 1))))), some (.int (jI ((aE T i + T 3 i)))), some (.int (jI (shb R T i (((aE T i + T 3 i) - (T 0 (i + 1) - T 4 (i + 1))).toNat + 1)))), some (.int (jI (shm R T i (((aE T i + T 3 i) - (T 0 (i + 1) - T 4 (i + 1))).toNat + 1)))), some (.int (jI ((((((aE T i + T 3 i) - (T 0 (i + 1) - T 4 (i + 1))).toNat + 1) : Nat) : Int)))), y8, y9] [] h P) : ∀ (m : Nat) (s : Nat) (y8 : Option Value) (y9 : Option Value), ((aE T i + T 3 i) - (T 0 (i + 1) - T 4 (i + 1))).toNat + 1 - s < m → (s ≤ ((aE T i + T 3 i) - (T 0 (i + 1) - T 4 (i + 1))).toNat + 1) → jT l 252 46 [some (.ref 388), some (.int (jI ((i : Int)))), some (.int (jI ((i : Int) + 1))), some (.int (jI ((T 0 (i + 1) - T 4 (i + 1))))), some (.int (jI ((aE T i + T 3 i)))), some (.int (jI (shb R T i s))), some (.int (jI (shm R T i s))), some (.int (jI (((s : Nat) : Int)))), y8, y9] [] h P := by
  have ok9 := ok
  obtain ⟨k1, k2, k3, k4, k5, k6, k7⟩ := ok9
  have bd := ti.1.bds ok (i := i) (by omega)
  have bd2 := ti.1.bds ok hi9
  have n33 := ti.1.n33 ok
  have r1 := ti.2 i (by omega)
  have r2 := ti.2 (i + 1) hi9
  rw [aL, if_pos hi9] at r1
  rw [if_neg (by omega), show i + 1 - 1 = i by omega] at r2
  obtain ⟨⟨r11, r12⟩, ⟨r13, r14⟩, r15⟩ := r1
  obtain ⟨⟨r21, r22⟩, ⟨r23, r24⟩, r25⟩ := r2
  have s2 := (ti.1.lim hi9).2
  have s1 := (ti.1.lim hi9).1
  have hA : ∀ j, -9 ≤ shA R T i j ∧ shA R T i j ≤ 9 := fun j => ws_b hRt _ _
  have hB : ∀ j, -9 ≤ shB R T i j ∧ shB R T i j ≤ 9 := fun j => ws_b hRt _ _
  intro m
  induction m with
  | zero => intro s y8 y9 hk; omega
  | succ m ih =>
    intro s y8 y9 hk hi
    by_cases sD : s ≤ ((aE T i + T 3 i) - (T 0 (i + 1) - T 4 (i + 1))).toNat
    · skip
      have hF : ∀ j, -18 ≤ (shF R T i (T 0 (i + 1) - T 4 (i + 1))) j ∧ (shF R T i (T 0 (i + 1) - T 4 (i + 1))) j ≤ 18 := fun j => by have a := hA j; have b := hB j; show -18 ≤ shA R T i j - shB R T i j ∧ shA R T i j - shB R T i j ≤ 18; omega
      have bT := (bs_b (f := (shB R T i)) (c := 9) hB (by omega) ((aE T i + T 3 i) - (T 0 (i + 1) - T 4 (i + 1))).toNat).1
      have b1 := bs_b (f := (shF R T i (T 0 (i + 1) - T 4 (i + 1)))) (c := 18) hF (by omega) (s - 1)
      have b2 := bs_b (f := (shF R T i (T 0 (i + 1) - T 4 (i + 1)))) (c := 18) hF (by omega) s
      have eS : shI (shA R T i) (shB R T i) s ((aE T i + T 3 i) - (T 0 (i + 1) - T 4 (i + 1))).toNat = bsS (shB R T i) ((aE T i + T 3 i) - (T 0 (i + 1) - T 4 (i + 1))).toNat + bsS (shF R T i (T 0 (i + 1) - T 4 (i + 1))) s := by rw [shI_e, show min ((aE T i + T 3 i) - (T 0 (i + 1) - T 4 (i + 1))).toNat s = s by omega]; rfl
      have eb : shb R T i s = if s = 0 then 0 else bsI (shF R T i (T 0 (i + 1) - T 4 (i + 1))) (s - 1) := rfl
      have em : shm R T i s = if s = 0 then -1000000 else bsS (shB R T i) ((aE T i + T 3 i) - (T 0 (i + 1) - T 4 (i + 1))).toNat + bsM (shF R T i (T 0 (i + 1) - T 4 (i + 1))) (s - 1) := rfl
      have eb2 : shb R T i (s + 1) = bsI (shF R T i (T 0 (i + 1) - T 4 (i + 1))) s := rfl
      have em2 : shm R T i (s + 1) = bsS (shB R T i) ((aE T i + T 3 i) - (T 0 (i + 1) - T 4 (i + 1))).toNat + bsM (shF R T i (T 0 (i + 1) - T 4 (i + 1))) s := rfl
      have bM : s ≠ 0 → bsM (shF R T i (T 0 (i + 1) - T 4 (i + 1))) s = if bsM (shF R T i (T 0 (i + 1) - T 4 (i + 1))) (s - 1) < bsS (shF R T i (T 0 (i + 1) - T 4 (i + 1))) s then bsS (shF R T i (T 0 (i + 1) - T 4 (i + 1))) s else bsM (shF R T i (T 0 (i + 1) - T 4 (i + 1))) (s - 1) := fun h0 => by rw [show s = s - 1 + 1 by omega, bsM, show s - 1 + 1 - 1 = s - 1 by omega]
      have bI : s ≠ 0 → bsI (shF R T i (T 0 (i + 1) - T 4 (i + 1))) s = if bsM (shF R T i (T 0 (i + 1) - T 4 (i + 1))) (s - 1) < bsS (shF R T i (T 0 (i + 1) - T 4 (i + 1))) s then (s : Int) else bsI (shF R T i (T 0 (i + 1) - T 4 (i + 1))) (s - 1) := fun h0 => by rw [show s = s - 1 + 1 by omega, bsI, show s - 1 + 1 - 1 = s - 1 by omega]; congr 1
      have b00 : s = 0 → bsS (shF R T i (T 0 (i + 1) - T 4 (i + 1))) s = 0 ∧ bsM (shF R T i (T 0 (i + 1) - T 4 (i + 1))) s = 0 ∧ bsI (shF R T i (T 0 (i + 1) - T 4 (i + 1))) s = 0 := fun h0 => by subst h0; exact ⟨rfl, rfl, rfl⟩
      by_cases s0 : s = 0
      · obtain ⟨z1, z2, z3⟩ := b00 s0
        rw [if_pos s0] at eb em
        refine tl_iload rfl rfl ?_
        refine tl_iload rfl rfl ?_
        refine tl_iload_n rfl rfl ?_
        refine tl_isub rfl ?_
        refine tl_icmp_gt (tgt := 148) rfl rfl ⟨by omega, by omega⟩ ⟨by omega, by omega⟩ (fun c1 => ?_) (fun c1 => ?_)
        · skip
          show jT _ _ 148 _ _ _ _
          -- leaf 0 at 148
          exfalso; omega
        · show jT _ _ 55 _ _ _ _
          refine tl_iconst rfl ?_
          show jT _ _ 56 _ _ _ _
          refine tl_istore rfl (Nat.le_of_ble_eq_true rfl) rfl ?_
          refine tl_iload_n rfl rfl ?_
          refine tl_istore rfl (Nat.le_of_ble_eq_true rfl) rfl ?_
          show jT _ _ 61 _ _ _ _
          -- leaf 1 at 61
          refine jT.loc ?_ (r_sh_in l h R e390 ok hRt T n ti hn tk i hi9 s (by omega) hlt P (fun q => ?_) _ 0 (Nat.lt_succ_self _) (Nat.zero_le _))
          · rw [show (T 0 (i + 1) - T 4 (i + 1)) + ((0 : Nat) : Int) = (T 0 (i + 1) - T 4 (i + 1)) by omega]
            rfl
          · skip
            refine tl_iload rfl rfl ?_
            refine tl_iload rfl rfl ?_
            refine tl_icmp_le (tgt := 122) rfl rfl ⟨by omega, by omega⟩ ⟨by omega, by omega⟩ (fun c1 => ?_) (fun c1 => ?_)
            · skip
              refine tl_iload rfl rfl ?_
              refine tl_istore rfl (Nat.le_of_ble_eq_true rfl) rfl ?_
              refine tl_iload rfl rfl ?_
              show jT _ _ 128 _ _ _ _
              refine tl_iload rfl rfl ?_
              refine tl_icmp_le (tgt := 138) rfl rfl ⟨by omega, by omega⟩ ⟨by omega, by omega⟩ (fun c2 => ?_) (fun c2 => ?_)
              · skip
                refine tl_iload rfl rfl ?_
                refine tl_istore rfl (Nat.le_of_ble_eq_true rfl) rfl ?_
                refine tl_iinc rfl rfl rfl ?_
                refine tl_goto (tgt := 46) rfl rfl ?_
                show jT _ _ 46 _ _ _ _
                -- leaf 0 at 46
                first
                  | (exfalso; omega)
                  | (refine jT.loc ?_ (ih (s + 1) (some (.int (jI (shI (shA R T i) (shB R T i) s ((aE T i + T 3 i) - (T 0 (i + 1) - T 4 (i + 1))).toNat)))) q (by omega) (by omega))
                     first | (rw [show shb R T i (s + 1) = (s : Int) by omega, show shm R T i (s + 1) = shI (shA R T i) (shB R T i) s ((aE T i + T 3 i) - (T 0 (i + 1) - T 4 (i + 1))).toNat by omega]; rfl) | (rw [show shb R T i (s + 1) = shb R T i s by omega, show shm R T i (s + 1) = shm R T i s by omega]; rfl))
              · show jT _ _ 133 _ _ _ _
                refine tl_iload rfl rfl ?_
                show jT _ _ 135 _ _ _ _
                refine tl_goto (tgt := 140) rfl rfl ?_
                refine tl_istore rfl (Nat.le_of_ble_eq_true rfl) rfl ?_
                refine tl_iinc rfl rfl rfl ?_
                refine tl_goto (tgt := 46) rfl rfl ?_
                show jT _ _ 46 _ _ _ _
                -- leaf 1 at 46
                first
                  | (exfalso; omega)
                  | (refine jT.loc ?_ (ih (s + 1) (some (.int (jI (shI (shA R T i) (shB R T i) s ((aE T i + T 3 i) - (T 0 (i + 1) - T 4 (i + 1))).toNat)))) q (by omega) (by omega))
                     first | (rw [show shb R T i (s + 1) = (s : Int) by omega, show shm R T i (s + 1) = shI (shA R T i) (shB R T i) s ((aE T i + T 3 i) - (T 0 (i + 1) - T 4 (i + 1))).toNat by omega]; rfl) | (rw [show shb R T i (s + 1) = shb R T i s by omega, show shm R T i (s + 1) = shm R T i s by omega]; rfl))
            · show jT _ _ 117 _ _ _ _
              refine tl_iload rfl rfl ?_
              refine tl_goto (tgt := 124) rfl rfl ?_
              refine tl_istore rfl (Nat.le_of_ble_eq_true rfl) rfl ?_
              show jT _ _ 126 _ _ _ _
              refine tl_iload rfl rfl ?_
              refine tl_iload rfl rfl ?_
              refine tl_icmp_le (tgt := 138) rfl rfl ⟨by omega, by omega⟩ ⟨by omega, by omega⟩ (fun c3 => ?_) (fun c3 => ?_)
              · skip
                refine tl_iload rfl rfl ?_
                refine tl_istore rfl (Nat.le_of_ble_eq_true rfl) rfl ?_
                refine tl_iinc rfl rfl rfl ?_
                refine tl_goto (tgt := 46) rfl rfl ?_
                show jT _ _ 46 _ _ _ _
                -- leaf 2 at 46
                first
                  | (exfalso; omega)
                  | (refine jT.loc ?_ (ih (s + 1) (some (.int (jI (shI (shA R T i) (shB R T i) s ((aE T i + T 3 i) - (T 0 (i + 1) - T 4 (i + 1))).toNat)))) q (by omega) (by omega))
                     first | (rw [show shb R T i (s + 1) = (s : Int) by omega, show shm R T i (s + 1) = shI (shA R T i) (shB R T i) s ((aE T i + T 3 i) - (T 0 (i + 1) - T 4 (i + 1))).toNat by omega]; rfl) | (rw [show shb R T i (s + 1) = shb R T i s by omega, show shm R T i (s + 1) = shm R T i s by omega]; rfl))
              · show jT _ _ 133 _ _ _ _
                show jT _ _ 133 _ _ _ _
                refine tl_iload rfl rfl ?_
                refine tl_goto (tgt := 140) rfl rfl ?_
                refine tl_istore rfl (Nat.le_of_ble_eq_true rfl) rfl ?_
                refine tl_iinc rfl rfl rfl ?_
                refine tl_goto (tgt := 46) rfl rfl ?_
                show jT _ _ 46 _ _ _ _
                -- leaf 3 at 46
                first
                  | (exfalso; omega)
                  | (refine jT.loc ?_ (ih (s + 1) (some (.int (jI (shI (shA R T i) (shB R T i) s ((aE T i + T 3 i) - (T 0 (i + 1) - T 4 (i + 1))).toNat)))) q (by omega) (by omega))
                     first | (rw [show shb R T i (s + 1) = (s : Int) by omega, show shm R T i (s + 1) = shI (shA R T i) (shB R T i) s ((aE T i + T 3 i) - (T 0 (i + 1) - T 4 (i + 1))).toNat by omega]; rfl) | (rw [show shb R T i (s + 1) = shb R T i s by omega, show shm R T i (s + 1) = shm R T i s by omega]; rfl))
      · have bM := bM s0
        have bI := bI s0
        rw [if_neg s0] at eb em
        by_cases cc : bsM (shF R T i (T 0 (i + 1) - T 4 (i + 1))) (s - 1) < bsS (shF R T i (T 0 (i + 1) - T 4 (i + 1))) s
        · rw [if_pos cc] at bM bI
          refine tl_iload rfl rfl ?_
          refine tl_iload rfl rfl ?_
          refine tl_iload_n rfl rfl ?_
          refine tl_isub rfl ?_
          refine tl_icmp_gt (tgt := 148) rfl rfl ⟨by omega, by omega⟩ ⟨by omega, by omega⟩ (fun c1 => ?_) (fun c1 => ?_)
          · skip
            show jT _ _ 148 _ _ _ _
            -- leaf 0 at 148
            exfalso; omega
          · show jT _ _ 55 _ _ _ _
            refine tl_iconst rfl ?_
            show jT _ _ 56 _ _ _ _
            refine tl_istore rfl (Nat.le_of_ble_eq_true rfl) rfl ?_
            refine tl_iload_n rfl rfl ?_
            refine tl_istore rfl (Nat.le_of_ble_eq_true rfl) rfl ?_
            show jT _ _ 61 _ _ _ _
            -- leaf 1 at 61
            refine jT.loc ?_ (r_sh_in l h R e390 ok hRt T n ti hn tk i hi9 s (by omega) hlt P (fun q => ?_) _ 0 (Nat.lt_succ_self _) (Nat.zero_le _))
            · rw [show (T 0 (i + 1) - T 4 (i + 1)) + ((0 : Nat) : Int) = (T 0 (i + 1) - T 4 (i + 1)) by omega]
              rfl
            · skip
              refine tl_iload rfl rfl ?_
              refine tl_iload rfl rfl ?_
              refine tl_icmp_le (tgt := 122) rfl rfl ⟨by omega, by omega⟩ ⟨by omega, by omega⟩ (fun c1 => ?_) (fun c1 => ?_)
              · skip
                refine tl_iload rfl rfl ?_
                refine tl_istore rfl (Nat.le_of_ble_eq_true rfl) rfl ?_
                refine tl_iload rfl rfl ?_
                show jT _ _ 128 _ _ _ _
                refine tl_iload rfl rfl ?_
                refine tl_icmp_le (tgt := 138) rfl rfl ⟨by omega, by omega⟩ ⟨by omega, by omega⟩ (fun c2 => ?_) (fun c2 => ?_)
                · skip
                  refine tl_iload rfl rfl ?_
                  refine tl_istore rfl (Nat.le_of_ble_eq_true rfl) rfl ?_
                  refine tl_iinc rfl rfl rfl ?_
                  refine tl_goto (tgt := 46) rfl rfl ?_
                  show jT _ _ 46 _ _ _ _
                  -- leaf 0 at 46
                  first
                    | (exfalso; omega)
                    | (refine jT.loc ?_ (ih (s + 1) (some (.int (jI (shI (shA R T i) (shB R T i) s ((aE T i + T 3 i) - (T 0 (i + 1) - T 4 (i + 1))).toNat)))) q (by omega) (by omega))
                       first | (rw [show shb R T i (s + 1) = (s : Int) by omega, show shm R T i (s + 1) = shI (shA R T i) (shB R T i) s ((aE T i + T 3 i) - (T 0 (i + 1) - T 4 (i + 1))).toNat by omega]; rfl) | (rw [show shb R T i (s + 1) = shb R T i s by omega, show shm R T i (s + 1) = shm R T i s by omega]; rfl))
                · show jT _ _ 133 _ _ _ _
                  refine tl_iload rfl rfl ?_
                  show jT _ _ 135 _ _ _ _
                  refine tl_goto (tgt := 140) rfl rfl ?_
                  refine tl_istore rfl (Nat.le_of_ble_eq_true rfl) rfl ?_
                  refine tl_iinc rfl rfl rfl ?_
                  refine tl_goto (tgt := 46) rfl rfl ?_
                  show jT _ _ 46 _ _ _ _
                  -- leaf 1 at 46
                  first
                    | (exfalso; omega)
                    | (refine jT.loc ?_ (ih (s + 1) (some (.int (jI (shI (shA R T i) (shB R T i) s ((aE T i + T 3 i) - (T 0 (i + 1) - T 4 (i + 1))).toNat)))) q (by omega) (by omega))
                       first | (rw [show shb R T i (s + 1) = (s : Int) by omega, show shm R T i (s + 1) = shI (shA R T i) (shB R T i) s ((aE T i + T 3 i) - (T 0 (i + 1) - T 4 (i + 1))).toNat by omega]; rfl) | (rw [show shb R T i (s + 1) = shb R T i s by omega, show shm R T i (s + 1) = shm R T i s by omega]; rfl))
              · show jT _ _ 117 _ _ _ _
                refine tl_iload rfl rfl ?_
                refine tl_goto (tgt := 124) rfl rfl ?_
                refine tl_istore rfl (Nat.le_of_ble_eq_true rfl) rfl ?_
                show jT _ _ 126 _ _ _ _
                refine tl_iload rfl rfl ?_
                refine tl_iload rfl rfl ?_
                refine tl_icmp_le (tgt := 138) rfl rfl ⟨by omega, by omega⟩ ⟨by omega, by omega⟩ (fun c3 => ?_) (fun c3 => ?_)
                · skip
                  refine tl_iload rfl rfl ?_
                  refine tl_istore rfl (Nat.le_of_ble_eq_true rfl) rfl ?_
                  refine tl_iinc rfl rfl rfl ?_
                  refine tl_goto (tgt := 46) rfl rfl ?_
                  show jT _ _ 46 _ _ _ _
                  -- leaf 2 at 46
                  first
                    | (exfalso; omega)
                    | (refine jT.loc ?_ (ih (s + 1) (some (.int (jI (shI (shA R T i) (shB R T i) s ((aE T i + T 3 i) - (T 0 (i + 1) - T 4 (i + 1))).toNat)))) q (by omega) (by omega))
                       first | (rw [show shb R T i (s + 1) = (s : Int) by omega, show shm R T i (s + 1) = shI (shA R T i) (shB R T i) s ((aE T i + T 3 i) - (T 0 (i + 1) - T 4 (i + 1))).toNat by omega]; rfl) | (rw [show shb R T i (s + 1) = shb R T i s by omega, show shm R T i (s + 1) = shm R T i s by omega]; rfl))
                · show jT _ _ 133 _ _ _ _
                  show jT _ _ 133 _ _ _ _
                  refine tl_iload rfl rfl ?_
                  refine tl_goto (tgt := 140) rfl rfl ?_
                  refine tl_istore rfl (Nat.le_of_ble_eq_true rfl) rfl ?_
                  refine tl_iinc rfl rfl rfl ?_
                  refine tl_goto (tgt := 46) rfl rfl ?_
                  show jT _ _ 46 _ _ _ _
                  -- leaf 3 at 46
                  first
                    | (exfalso; omega)
                    | (refine jT.loc ?_ (ih (s + 1) (some (.int (jI (shI (shA R T i) (shB R T i) s ((aE T i + T 3 i) - (T 0 (i + 1) - T 4 (i + 1))).toNat)))) q (by omega) (by omega))
                       first | (rw [show shb R T i (s + 1) = (s : Int) by omega, show shm R T i (s + 1) = shI (shA R T i) (shB R T i) s ((aE T i + T 3 i) - (T 0 (i + 1) - T 4 (i + 1))).toNat by omega]; rfl) | (rw [show shb R T i (s + 1) = shb R T i s by omega, show shm R T i (s + 1) = shm R T i s by omega]; rfl))
        · rw [if_neg cc] at bM bI
          refine tl_iload rfl rfl ?_
          refine tl_iload rfl rfl ?_
          refine tl_iload_n rfl rfl ?_
          refine tl_isub rfl ?_
          refine tl_icmp_gt (tgt := 148) rfl rfl ⟨by omega, by omega⟩ ⟨by omega, by omega⟩ (fun c1 => ?_) (fun c1 => ?_)
          · skip
            show jT _ _ 148 _ _ _ _
            -- leaf 0 at 148
            exfalso; omega
          · show jT _ _ 55 _ _ _ _
            refine tl_iconst rfl ?_
            show jT _ _ 56 _ _ _ _
            refine tl_istore rfl (Nat.le_of_ble_eq_true rfl) rfl ?_
            refine tl_iload_n rfl rfl ?_
            refine tl_istore rfl (Nat.le_of_ble_eq_true rfl) rfl ?_
            show jT _ _ 61 _ _ _ _
            -- leaf 1 at 61
            refine jT.loc ?_ (r_sh_in l h R e390 ok hRt T n ti hn tk i hi9 s (by omega) hlt P (fun q => ?_) _ 0 (Nat.lt_succ_self _) (Nat.zero_le _))
            · rw [show (T 0 (i + 1) - T 4 (i + 1)) + ((0 : Nat) : Int) = (T 0 (i + 1) - T 4 (i + 1)) by omega]
              rfl
            · skip
              refine tl_iload rfl rfl ?_
              refine tl_iload rfl rfl ?_
              refine tl_icmp_le (tgt := 122) rfl rfl ⟨by omega, by omega⟩ ⟨by omega, by omega⟩ (fun c1 => ?_) (fun c1 => ?_)
              · skip
                refine tl_iload rfl rfl ?_
                refine tl_istore rfl (Nat.le_of_ble_eq_true rfl) rfl ?_
                refine tl_iload rfl rfl ?_
                show jT _ _ 128 _ _ _ _
                refine tl_iload rfl rfl ?_
                refine tl_icmp_le (tgt := 138) rfl rfl ⟨by omega, by omega⟩ ⟨by omega, by omega⟩ (fun c2 => ?_) (fun c2 => ?_)
                · skip
                  refine tl_iload rfl rfl ?_
                  refine tl_istore rfl (Nat.le_of_ble_eq_true rfl) rfl ?_
                  refine tl_iinc rfl rfl rfl ?_
                  refine tl_goto (tgt := 46) rfl rfl ?_
                  show jT _ _ 46 _ _ _ _
                  -- leaf 0 at 46
                  first
                    | (exfalso; omega)
                    | (refine jT.loc ?_ (ih (s + 1) (some (.int (jI (shI (shA R T i) (shB R T i) s ((aE T i + T 3 i) - (T 0 (i + 1) - T 4 (i + 1))).toNat)))) q (by omega) (by omega))
                       first | (rw [show shb R T i (s + 1) = (s : Int) by omega, show shm R T i (s + 1) = shI (shA R T i) (shB R T i) s ((aE T i + T 3 i) - (T 0 (i + 1) - T 4 (i + 1))).toNat by omega]; rfl) | (rw [show shb R T i (s + 1) = shb R T i s by omega, show shm R T i (s + 1) = shm R T i s by omega]; rfl))
                · show jT _ _ 133 _ _ _ _
                  refine tl_iload rfl rfl ?_
                  show jT _ _ 135 _ _ _ _
                  refine tl_goto (tgt := 140) rfl rfl ?_
                  refine tl_istore rfl (Nat.le_of_ble_eq_true rfl) rfl ?_
                  refine tl_iinc rfl rfl rfl ?_
                  refine tl_goto (tgt := 46) rfl rfl ?_
                  show jT _ _ 46 _ _ _ _
                  -- leaf 1 at 46
                  first
                    | (exfalso; omega)
                    | (refine jT.loc ?_ (ih (s + 1) (some (.int (jI (shI (shA R T i) (shB R T i) s ((aE T i + T 3 i) - (T 0 (i + 1) - T 4 (i + 1))).toNat)))) q (by omega) (by omega))
                       first | (rw [show shb R T i (s + 1) = (s : Int) by omega, show shm R T i (s + 1) = shI (shA R T i) (shB R T i) s ((aE T i + T 3 i) - (T 0 (i + 1) - T 4 (i + 1))).toNat by omega]; rfl) | (rw [show shb R T i (s + 1) = shb R T i s by omega, show shm R T i (s + 1) = shm R T i s by omega]; rfl))
              · show jT _ _ 117 _ _ _ _
                refine tl_iload rfl rfl ?_
                refine tl_goto (tgt := 124) rfl rfl ?_
                refine tl_istore rfl (Nat.le_of_ble_eq_true rfl) rfl ?_
                show jT _ _ 126 _ _ _ _
                refine tl_iload rfl rfl ?_
                refine tl_iload rfl rfl ?_
                refine tl_icmp_le (tgt := 138) rfl rfl ⟨by omega, by omega⟩ ⟨by omega, by omega⟩ (fun c3 => ?_) (fun c3 => ?_)
                · skip
                  refine tl_iload rfl rfl ?_
                  refine tl_istore rfl (Nat.le_of_ble_eq_true rfl) rfl ?_
                  refine tl_iinc rfl rfl rfl ?_
                  refine tl_goto (tgt := 46) rfl rfl ?_
                  show jT _ _ 46 _ _ _ _
                  -- leaf 2 at 46
                  first
                    | (exfalso; omega)
                    | (refine jT.loc ?_ (ih (s + 1) (some (.int (jI (shI (shA R T i) (shB R T i) s ((aE T i + T 3 i) - (T 0 (i + 1) - T 4 (i + 1))).toNat)))) q (by omega) (by omega))
                       first | (rw [show shb R T i (s + 1) = (s : Int) by omega, show shm R T i (s + 1) = shI (shA R T i) (shB R T i) s ((aE T i + T 3 i) - (T 0 (i + 1) - T 4 (i + 1))).toNat by omega]; rfl) | (rw [show shb R T i (s + 1) = shb R T i s by omega, show shm R T i (s + 1) = shm R T i s by omega]; rfl))
                · show jT _ _ 133 _ _ _ _
                  show jT _ _ 133 _ _ _ _
                  refine tl_iload rfl rfl ?_
                  refine tl_goto (tgt := 140) rfl rfl ?_
                  refine tl_istore rfl (Nat.le_of_ble_eq_true rfl) rfl ?_
                  refine tl_iinc rfl rfl rfl ?_
                  refine tl_goto (tgt := 46) rfl rfl ?_
                  show jT _ _ 46 _ _ _ _
                  -- leaf 3 at 46
                  first
                    | (exfalso; omega)
                    | (refine jT.loc ?_ (ih (s + 1) (some (.int (jI (shI (shA R T i) (shB R T i) s ((aE T i + T 3 i) - (T 0 (i + 1) - T 4 (i + 1))).toNat)))) q (by omega) (by omega))
                       first | (rw [show shb R T i (s + 1) = (s : Int) by omega, show shm R T i (s + 1) = shI (shA R T i) (shB R T i) s ((aE T i + T 3 i) - (T 0 (i + 1) - T 4 (i + 1))).toNat by omega]; rfl) | (rw [show shb R T i (s + 1) = shb R T i s by omega, show shm R T i (s + 1) = shm R T i s by omega]; rfl))
    have sE : s = ((aE T i + T 3 i) - (T 0 (i + 1) - T 4 (i + 1))).toNat + 1 := by omega
    have b1 := bs_b (f := (shF R T i (T 0 (i + 1) - T 4 (i + 1)))) (c := 18) (fun j => by have a := hA j; have b := hB j; show -18 ≤ shA R T i j - shB R T i j ∧ shA R T i j - shB R T i j ≤ 18; omega) (by omega) s
    refine tl_iload rfl rfl ?_
    refine tl_iload rfl rfl ?_
    refine tl_iload_n rfl rfl ?_
    refine tl_isub rfl ?_
    refine tl_icmp_gt (tgt := 148) rfl rfl ⟨by omega, by omega⟩ ⟨by omega, by omega⟩ (fun c1 => ?_) (fun c1 => ?_)
    · skip
      show jT _ _ 148 _ _ _ _
      -- leaf 0 at 148
      rw [sE]
      exact hx _ _
    · show jT _ _ 55 _ _ _ _
      refine tl_iconst rfl ?_
      show jT _ _ 56 _ _ _ _
      refine tl_istore rfl (Nat.le_of_ble_eq_true rfl) rfl ?_
      show jT _ _ 58 _ _ _ _
      -- leaf 1 at 58
      exfalso; omega
set_option maxRecDepth 20000 in
set_option maxHeartbeats 1000000 in
theorem r_share (l : Launch) (h : jH) (R : Nat → Int) (e390 : h 390 = R) (ok : Rok R) (hRt : Rt R) (T : jH) (n : Nat) (ti : TI R T n) (hn : h 388 22 = (n : Int)) (tk : ∀ r, r < 5 → ∀ i, i < n → h (398 + r) i = T r i) (i : Nat) (hi9 : i + 1 < n) : cV l 252 [.ref 388, .int (jI (i : Int)), .int (jI ((i : Int) + 1))] h (fun h' => (∀ r, r < 5 → ∀ q, q < n → h' (398 + r) q = shr R T i r q) ∧ ∀ x, (x < 401 ∨ 402 < x) → h' x = h x) := by
  have ok9 := ok
  obtain ⟨k1, k2, k3, k4, k5, k6, k7⟩ := ok9
  have bd := ti.1.bds ok (i := i) (by omega)
  have bd2 := ti.1.bds ok hi9
  have n33 := ti.1.n33 ok
  have r1 := ti.2 i (by omega)
  have r2 := ti.2 (i + 1) hi9
  rw [aL, if_pos hi9] at r1
  rw [if_neg (by omega), show i + 1 - 1 = i by omega] at r2
  obtain ⟨⟨r11, r12⟩, ⟨r13, r14⟩, r15⟩ := r1
  obtain ⟨⟨r21, r22⟩, ⟨r23, r24⟩, r25⟩ := r2
  have s2 := (ti.1.lim hi9).2
  have s1 := (ti.1.lim hi9).1
  have hA : ∀ j, -9 ≤ shA R T i j ∧ shA R T i j ≤ 9 := fun j => ws_b hRt _ _
  have hB : ∀ j, -9 ≤ shB R T i j ∧ shB R T i j ≤ 9 := fun j => ws_b hRt _ _
  refine cV.of rfl rfl ?_
  refine tl_aload_n rfl rfl ?_
  refine tl_getr (c := 12) (k9 := 17) (b := 398) rfl rfl rfl rfl ?_
  refine tl_iload_n rfl rfl ?_
  refine tl_iald (n := 66) rfl rfl rfl (by omega) (by omega) ?_
  rw [show ((i : Int) + 1).toNat = i + 1 by omega, show h 398 (i + 1) = T 0 (i + 1) from tk 0 (by omega) (i + 1) hi9]
  refine tl_aload_n rfl rfl ?_
  refine tl_getr (c := 12) (k9 := 21) (b := 402) rfl rfl rfl rfl ?_
  show jT _ _ 10 _ _ _ _
  refine tl_iload_n rfl rfl ?_
  refine tl_iald (n := 66) rfl rfl rfl (by omega) (by omega) ?_
  rw [show ((i : Int) + 1).toNat = i + 1 by omega, show h 402 (i + 1) = T 4 (i + 1) from tk 4 (by omega) (i + 1) hi9]
  refine tl_isub rfl ?_
  refine tl_istore_n rfl (Nat.le_of_ble_eq_true rfl) rfl ?_
  refine tl_aload_n rfl rfl ?_
  refine tl_iload_n rfl rfl ?_
  refine tl_v1i (c9 := 12) (r_endOf l h T (i) (by omega) (tk 0 (by omega) _ (by omega)) (tk 2 (by omega) _ (by omega))) rfl rfl rfl rfl rfl (Nat.le_of_ble_eq_true rfl) (fun z1 h1 p1 => ?_)
  obtain ⟨q1, rfl⟩ := p1
  have q1 := q1.symm
  subst q1
  show jT _ _ 19 _ _ _ _
  refine tl_aload_n rfl rfl ?_
  refine tl_getr (c := 12) (k9 := 20) (b := 401) rfl rfl rfl rfl ?_
  refine tl_iload_n rfl rfl ?_
  refine tl_iald (n := 66) rfl rfl rfl (by omega) (by omega) ?_
  rw [Int.toNat_natCast, show h 401 (i) = T 3 (i) from tk 3 (by omega) (i) (by omega)]
  refine tl_iadd rfl ?_
  refine tl_istore rfl (Nat.le_of_ble_eq_true rfl) rfl ?_
  refine tl_iload_n rfl rfl ?_
  show jT _ _ 29 _ _ _ _
  refine tl_iload rfl rfl ?_
  refine tl_icmp_lt (tgt := 35) rfl rfl ⟨by omega, by omega⟩ ⟨by omega, by omega⟩ (fun c1 => ?_) (fun c1 => ?_)
  · skip
    refine tl_iconst rfl ?_
    refine tl_istore rfl (Nat.le_of_ble_eq_true rfl) rfl ?_
    refine tl_ldcw (z := -1000000) rfl rfl (by decide +kernel) ?_
    refine tl_istore rfl (Nat.le_of_ble_eq_true rfl) rfl ?_
    refine tl_iconst rfl ?_
    show jT _ _ 44 _ _ _ _
    refine tl_istore rfl (Nat.le_of_ble_eq_true rfl) rfl ?_
    show jT _ _ 46 _ _ _ _
    -- leaf 0 at 46
    refine r_sh_out l h R e390 ok hRt T n ti hn tk i hi9 (by omega) _ (fun y8 y9 => ?_) _ 0 _ _ (Nat.lt_succ_self _) (Nat.zero_le _)
    refine tl_aload_n rfl rfl ?_
    refine tl_getr (c := 12) (k9 := 20) (b := 401) rfl rfl rfl rfl ?_
    refine tl_iload_n rfl rfl ?_
    refine tl_iload_n rfl rfl ?_
    refine tl_iload rfl rfl ?_
    refine tl_iadd rfl ?_
    show jT _ _ 157 _ _ _ _
    refine tl_aload_n rfl rfl ?_
    refine tl_iload_n rfl rfl ?_
    refine tl_v1i (c9 := 12) (r_endOf l h T (i) (by omega) (tk 0 (by omega) _ (by omega)) (tk 2 (by omega) _ (by omega))) rfl rfl rfl rfl rfl (Nat.le_of_ble_eq_true rfl) (fun z3 h3 p3 => ?_)
    obtain ⟨q3, rfl⟩ := p3
    have q3 := q3.symm
    subst q3
    refine tl_isub rfl ?_
    refine tl_iast (n := 66) rfl rfl rfl (by omega) (by omega) ?_
    refine tl_aload_n rfl rfl ?_
    refine tl_getr (c := 12) (k9 := 21) (b := 402) rfl rfl rfl rfl ?_
    show jT _ _ 168 _ _ _ _
    refine tl_iload_n rfl rfl ?_
    refine tl_aload_n rfl rfl ?_
    refine tl_getr (c := 12) (k9 := 17) (b := 398) rfl rfl rfl rfl ?_
    refine tl_iload_n rfl rfl ?_
    refine tl_iald (n := 66) rfl rfl rfl (by omega) (by omega) ?_
    rw [show ((i : Int) + 1).toNat = i + 1 by omega, hs_o (show (398 : Nat) ≠ 401 by decide), show h 398 (i + 1) = T 0 (i + 1) from tk 0 (by omega) (i + 1) hi9]
    refine tl_iload_n rfl rfl ?_
    refine tl_isub rfl ?_
    show jT _ _ 177 _ _ _ _
    refine tl_iload rfl rfl ?_
    refine tl_isub rfl ?_
    refine tl_iast (n := 66) rfl rfl rfl (by omega) (by omega) ?_
    refine tl_ret rfl ?_
    -- leaf 0 at 181
    refine ⟨rfl, fun r hr q hq => ?_, fun x hx => ?_⟩
    · rw [shr, if_neg (by omega), Int.toNat_natCast, show ((i : Int) + 1).toNat = i + 1 by omega]
      have eg : shb R T i (((aE T i + T 3 i) - (T 0 (i + 1) - T 4 (i + 1))).toNat + 1) = shG R T i := rfl
      rw [eg]
      by_cases c3 : r = 3
      · subst c3
        rw [hs_o (show (398 + 3 : Nat) ≠ 402 by decide), hs_o (show (3 : Nat) ≠ 4 by decide)]
        by_cases c : q = i
        · subst c; rw [show (398 + 3 : Nat) = 401 from rfl, hs_s, hs_s]
        · rw [show (398 + 3 : Nat) = 401 from rfl, hs_k c, hs_k c]; exact tk 3 (by omega) q hq
      · by_cases c4 : r = 4
        · subst c4
          by_cases c : q = i + 1
          · subst c; rw [show (398 + 4 : Nat) = 402 from rfl, hs_s, hs_s]; omega
          · rw [show (398 + 4 : Nat) = 402 from rfl, hs_k c, hs_k c, hs_o (by decide), hs_o (by decide)]; exact tk 4 (by omega) q hq
        · rw [hs_o (by omega), hs_o (by omega), hs_o (by omega), hs_o (by omega)]; exact tk r hr q hq
    · rw [hs_O (by omega), hs_O (by omega)]
  · show jT _ _ 34 _ _ _ _
    refine tl_ret rfl ?_
    -- leaf 1 at 34
    refine ⟨rfl, fun r hr q hq => ?_, fun x _ => rfl⟩
    rw [shr, if_pos (by omega)]
    exact tk r hr q hq
