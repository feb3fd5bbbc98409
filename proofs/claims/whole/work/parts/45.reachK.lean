/-! the anchors of the walked file: reachForward, reachBack, share, fillOrigins, find -/
theorem fwP_f1 {R : Nat → Int} {T : jH} {n i j : Nat} (h : ¬ (aE T i + j < aL R T n i)) : fwP R T n i j = false := by rw [fwP, decide_eq_false h]; rfl
theorem fwP_f2 {R : Nat → Int} {T : jH} {n i j : Nat} (h : opn R (aE T i + j + aW T i) = false) : fwP R T n i j = false := by rw [fwP, h, Bool.and_false]
theorem fwP_t' {R : Nat → Int} {T : jH} {n i j : Nat} (h1 : aE T i + j < aL R T n i) (h2 : opn R (aE T i + j + aW T i) = true) : fwP R T n i j = true := by rw [fwP, h2, decide_eq_true h1]; rfl
theorem bkP_f1 {R : Nat → Int} {T : jH} {i j : Nat} (h : ¬ (aE T (i - 1) ≤ T 0 i - 1 - j)) : bkP R T i j = false := by rw [bkP, decide_eq_false h]; rfl
theorem bkP_f2 {R : Nat → Int} {T : jH} {i j : Nat} (h : opn R (T 1 i - 1 - j) = false) : bkP R T i j = false := by rw [bkP, h, Bool.and_false]
theorem bkP_t' {R : Nat → Int} {T : jH} {i j : Nat} (h1 : aE T (i - 1) ≤ T 0 i - 1 - j) (h2 : opn R (T 1 i - 1 - j) = true) : bkP R T i j = true := by rw [bkP, h2, decide_eq_true h1]; rfl
theorem CI.bds {R : Nat → Int} (hR : Rok R) {T : jH} {n : Nat} {nx : Int} (h : CI R T n nx) {i : Nat} (hi : i < n) : (0 ≤ T 0 i ∧ T 0 i ≤ 64) ∧ (0 ≤ T 1 i ∧ T 1 i ≤ 64) ∧ (0 ≤ T 2 i ∧ T 2 i ≤ 64) ∧ (0 ≤ aE T i ∧ aE T i ≤ 64) ∧ (-64 ≤ aW T i ∧ aW T i ≤ 64) ∧ aE T i = T 0 i + T 2 i ∧ aW T i = T 1 i - T 0 i ∧ T 1 i + T 2 i ≤ R 5 := by
  obtain ⟨x1, x2, x3, x4, x5, x6⟩ := h.2.2.2.2.2.1 i hi
  have k2 := hR.2.1
  have k4 := hR.2.2.2.1
  have e : aE T i = T 0 i + T 2 i := rfl
  have e2 : aW T i = T 1 i - T 0 i := rfl
  omega
set_option maxRecDepth 20000 in
set_option maxHeartbeats 1000000 in
theorem k_fw_lp (l : Launch) (h : jH) (R : Nat → Int) (hR : RS h 1 R) (hg : h 319 7 = R 2) (hl : h 319 8 = R 3) (hRt : Rt R) (T : jH) (n : Nat) (nx : Int) (ci : CI R T n nx) (hn : h 319 5 = (n : Int)) (t0 : ∀ i, i < n → h 320 i = T 0 i) (t1 : ∀ i, i < n → h 321 i = T 1 i) (t2 : ∀ i, i < n → h 322 i = T 2 i) (i : Nat) (hi9 : i < n) (P : Option Value → jH → Prop) (hP : P (some (.int (jI (fw R T n i)))) h) : ∀ (m : Nat) (k : Nat), 64 - k < m → (k ≤ 64 ∧ ∀ j, j < k → fwP R T n i j = true) → jT l 6 99 [some (.ref 319), some (.ref 1), some (.int (jI ((i : Int)))), some (.int (jI (aE T i))), some (.int (jI (aE T i + aW T i))), some (.int (jI (aL R T n i))), some (.int (jI (bsS (fwF R T i) k))), some (.int (jI (bsM (fwF R T i) k))), some (.int (jI (bsI (fwF R T i) k))), some (.int (jI (((k : Nat) : Int))))] [] h P := by
  have ok := hR.ok
  obtain ⟨k1, k2, k3, k4, k5, k6, k7⟩ := ok
  have ok := hR.ok
  have bd := ci.bds ok hi9
  have ll := ci.lim hi9
  have n33 := ci.n33 ok
  intro m
  induction m with
  | zero => intro k hk; omega
  | succ m ih =>
    intro k hk hi
    obtain ⟨i0, i1⟩ := hi
    have bb := bs_b (f := (fwF R T i)) (c := 9) (fun j => ws_b hRt _ _) (by omega) k
    have es : bsS (fwF R T i) (k + 1) = bsS (fwF R T i) k + (fwF R T i) k := rfl
    have em : bsM (fwF R T i) (k + 1) = if bsM (fwF R T i) k < bsS (fwF R T i) (k + 1) then bsS (fwF R T i) (k + 1) else bsM (fwF R T i) k := rfl
    have ei : bsI (fwF R T i) (k + 1) = if bsM (fwF R T i) k < bsS (fwF R T i) (k + 1) then (k : Int) + 1 else bsI (fwF R T i) k := rfl
    have wb : -9 ≤ (fwF R T i) k ∧ (fwF R T i) k ≤ 9 := ws_b hRt _ _
    refine tl_iload_n rfl rfl ?_
    refine tl_iload rfl rfl ?_
    refine tl_iadd rfl ?_
    refine tl_iload rfl rfl ?_
    refine tl_icmp_ge (tgt := 162) rfl rfl ⟨by omega, by omega⟩ ⟨by omega, by omega⟩ (fun c1 => ?_) (fun c1 => ?_)
    · skip
      refine tl_iload rfl rfl ?_
      show jT _ _ 164 _ _ _ _
      refine tl_iret rfl ?_
      -- leaf 0 at 164
      have e : fwN R T n i = k := fst_uniq (Nat.zero_le _) (by omega) (fun q _ hq => i1 q hq) (by first | exact fwP_f1 (by omega) | (rw [eo] at e1; exact fwP_f2 e1))
      rw [fw, e] at hP
      exact hP
    · show jT _ _ 108 _ _ _ _
      have eo : aE T i + aW T i + (k : Int) = aE T i + (k : Int) + aW T i := by omega
      refine tl_aload_n rfl rfl ?_
      refine tl_iload rfl rfl ?_
      refine tl_iload rfl rfl ?_
      refine tl_iadd rfl ?_
      refine tl_v1i (c9 := 9) (k_isOpen l h R hR (aE T i + aW T i + (k : Int)) ⟨by omega, by omega⟩) rfl rfl rfl rfl rfl (Nat.le_of_ble_eq_true rfl) (fun z1 h1 p1 => ?_)
      obtain ⟨q1, rfl⟩ := p1
      have q1 := q1.symm
      subst q1
      have b1 := zb_b (opn R (aE T i + aW T i + (k : Int)))
      refine tl_if_eq (tgt := 162) rfl rfl ⟨by omega, by omega⟩ (fun c2 => ?_) (fun c2 => ?_)
      · skip
        have e1 := zb0 c2
        show jT _ _ 162 _ _ _ _
        refine tl_iload rfl rfl ?_
        refine tl_iret rfl ?_
        -- leaf 1 at 164
        have e : fwN R T n i = k := fst_uniq (Nat.zero_le _) (by omega) (fun q _ hq => i1 q hq) (by first | exact fwP_f1 (by omega) | (rw [eo] at e1; exact fwP_f2 e1))
        rw [fw, e] at hP
        exact hP
      · show jT _ _ 120 _ _ _ _
        have e1 := zb1' c2
        refine tl_iload rfl rfl ?_
        refine tl_aload_n rfl rfl ?_
        refine tl_aload_n rfl rfl ?_
        refine tl_iload_n rfl rfl ?_
        refine tl_iload rfl rfl ?_
        show jT _ _ 127 _ _ _ _
        refine tl_iadd rfl ?_
        refine tl_iload rfl rfl ?_
        refine tl_iload rfl rfl ?_
        refine tl_iadd rfl ?_
        refine tl_v3i (c9 := 0) (k_worth l h R hR hg hl (aE T i + (k : Int)) (aE T i + aW T i + (k : Int)) ⟨by omega, by omega⟩ ⟨by omega, by omega⟩) rfl rfl rfl rfl rfl (Nat.le_of_ble_eq_true rfl) (fun z3 h3 p3 => ?_)
        obtain ⟨q3, p3⟩ := p3
        have q3 := q3.symm
        subst q3
        have e3 : z3 = fwF R T i k := by rw [p3]; show _ = ws R _ _; congr 1 <;> omega
        clear p3
        subst e3
        refine tl_iadd rfl ?_
        refine tl_istore rfl (Nat.le_of_ble_eq_true rfl) rfl ?_
        show jT _ _ 139 _ _ _ _
        refine tl_iload rfl rfl ?_
        refine tl_iload rfl rfl ?_
        refine tl_icmp_le (tgt := 156) rfl rfl ⟨by omega, by omega⟩ ⟨by omega, by omega⟩ (fun c3 => ?_) (fun c3 => ?_)
        · skip
          refine tl_iinc rfl rfl rfl ?_
          refine tl_goto (tgt := 99) rfl rfl ?_
          show jT _ _ 99 _ _ _ _
          -- leaf 2 at 99
          rw [eo] at e1
          have k63 : k < 64 := by
            by_cases c : k = 64
            · have := opn_64 ok (p := aE T i + (k : Int) + aW T i) (by omega)
              rw [e1] at this; exact absurd this (by decide)
            · omega
          refine jT.loc ?_ (ih (k + 1) (by omega) ⟨by omega, fun q hq => ?_⟩)
          · first | (rw [em, ei, if_pos (by omega), if_pos (by omega)]; rfl) | (rw [em, ei, if_neg (by omega), if_neg (by omega)]; rfl)
          · by_cases c : q = k
            · subst c; exact fwP_t' (by omega) e1
            · exact i1 q (by omega)
        · show jT _ _ 146 _ _ _ _
          refine tl_iload rfl rfl ?_
          refine tl_istore rfl (Nat.le_of_ble_eq_true rfl) rfl ?_
          show jT _ _ 150 _ _ _ _
          refine tl_iload rfl rfl ?_
          refine tl_iconst rfl ?_
          refine tl_iadd rfl ?_
          refine tl_istore rfl (Nat.le_of_ble_eq_true rfl) rfl ?_
          refine tl_iinc rfl rfl rfl ?_
          refine tl_goto (tgt := 99) rfl rfl ?_
          show jT _ _ 99 _ _ _ _
          -- leaf 3 at 99
          rw [eo] at e1
          have k63 : k < 64 := by
            by_cases c : k = 64
            · have := opn_64 ok (p := aE T i + (k : Int) + aW T i) (by omega)
              rw [e1] at this; exact absurd this (by decide)
            · omega
          refine jT.loc ?_ (ih (k + 1) (by omega) ⟨by omega, fun q hq => ?_⟩)
          · first | (rw [em, ei, if_pos (by omega), if_pos (by omega)]; rfl) | (rw [em, ei, if_neg (by omega), if_neg (by omega)]; rfl)
          · by_cases c : q = k
            · subst c; exact fwP_t' (by omega) e1
            · exact i1 q (by omega)
set_option maxRecDepth 20000 in
set_option maxHeartbeats 1000000 in
theorem k_reachF (l : Launch) (h : jH) (R : Nat → Int) (hR : RS h 1 R) (hg : h 319 7 = R 2) (hl : h 319 8 = R 3) (hRt : Rt R) (T : jH) (n : Nat) (nx : Int) (ci : CI R T n nx) (hn : h 319 5 = (n : Int)) (t0 : ∀ i, i < n → h 320 i = T 0 i) (t1 : ∀ i, i < n → h 321 i = T 1 i) (t2 : ∀ i, i < n → h 322 i = T 2 i) (i : Nat) (hi9 : i < n) : cI l 6 [.ref 319, .ref 1, .int (jI (i : Int))] h (fun z h' => h' = h ∧ z = fw R T n i) := by
  have ok := hR.ok
  obtain ⟨k1, k2, k3, k4, k5, k6, k7⟩ := ok
  have ok := hR.ok
  have bd := ci.bds ok hi9
  have ll := ci.lim hi9
  have n33 := ci.n33 ok
  refine cI.of rfl rfl ?_
  refine tl_iload_n rfl rfl ?_
  refine tl_if_lt (tgt := 18) rfl rfl ⟨by omega, by omega⟩ (fun c1 => ?_) (fun c1 => ?_)
  · skip
    refine tl_iconst rfl ?_
    refine tl_iret rfl ?_
    -- leaf 0 at 19
    exfalso; omega
  · show jT _ _ 4 _ _ _ _
    refine tl_iload_n rfl rfl ?_
    refine tl_aload_n rfl rfl ?_
    show jT _ _ 6 _ _ _ _
    refine tl_geti (c := 0) (k9 := 5) rfl rfl rfl ?_
    rw [hn]
    refine tl_icmp_ge (tgt := 18) rfl rfl ⟨by omega, by omega⟩ ⟨by omega, by omega⟩ (fun c2 => ?_) (fun c2 => ?_)
    · skip
      refine tl_iconst rfl ?_
      refine tl_iret rfl ?_
      -- leaf 1 at 19
      exfalso; omega
    · show jT _ _ 12 _ _ _ _
      refine tl_iload_n rfl rfl ?_
      refine tl_bipush rfl rfl ?_
      refine tl_icmp_lt (tgt := 20) rfl rfl ⟨by omega, by omega⟩ ⟨by omega, by omega⟩ (fun c3 => ?_) (fun c3 => ?_)
      · skip
        show jT _ _ 20 _ _ _ _
        refine tl_aload_n rfl rfl ?_
        refine tl_getr (c := 0) (k9 := 0) (b := 320) rfl rfl rfl rfl ?_
        refine tl_iload_n rfl rfl ?_
        refine tl_iald (n := 64) rfl rfl rfl (by omega) (by omega) ?_
        rw [Int.toNat_natCast, t0 i hi9]
        refine tl_aload_n rfl rfl ?_
        refine tl_getr (c := 0) (k9 := 2) (b := 322) rfl rfl rfl rfl ?_
        refine tl_iload_n rfl rfl ?_
        show jT _ _ 31 _ _ _ _
        refine tl_iald (n := 64) rfl rfl rfl (by omega) (by omega) ?_
        rw [Int.toNat_natCast, t2 i hi9]
        refine tl_iadd rfl ?_
        refine tl_istore_n rfl (Nat.le_of_ble_eq_true rfl) rfl ?_
        refine tl_aload_n rfl rfl ?_
        refine tl_getr (c := 0) (k9 := 1) (b := 321) rfl rfl rfl rfl ?_
        refine tl_iload_n rfl rfl ?_
        refine tl_iald (n := 64) rfl rfl rfl (by omega) (by omega) ?_
        rw [Int.toNat_natCast, t1 i hi9]
        show jT _ _ 40 _ _ _ _
        refine tl_aload_n rfl rfl ?_
        refine tl_getr (c := 0) (k9 := 2) (b := 322) rfl rfl rfl rfl ?_
        refine tl_iload_n rfl rfl ?_
        refine tl_iald (n := 64) rfl rfl rfl (by omega) (by omega) ?_
        rw [Int.toNat_natCast, t2 i hi9]
        refine tl_iadd rfl ?_
        refine tl_istore rfl (Nat.le_of_ble_eq_true rfl) rfl ?_
        refine tl_iload_n rfl rfl ?_
        show jT _ _ 50 _ _ _ _
        refine tl_iconst rfl ?_
        refine tl_iadd rfl ?_
        refine tl_aload_n rfl rfl ?_
        refine tl_geti (c := 0) (k9 := 5) rfl rfl rfl ?_
        rw [hn]
        refine tl_icmp_ge (tgt := 78) rfl rfl ⟨by omega, by omega⟩ ⟨by omega, by omega⟩ (fun c4 => ?_) (fun c4 => ?_)
        · skip
          refine tl_aload_n rfl rfl ?_
          refine tl_getr (c := 9) (k9 := 1) (b := 4) rfl rfl rfl rfl ?_
          show jT _ _ 82 _ _ _ _
          refine tl_geti (c := 8) (k9 := 1) rfl rfl rfl ?_
          rw [hR.o70]
          show jT _ _ 85 _ _ _ _
          -- leaf 2 at 85
          first | (rw [show T 0 (i + 1) = aL R T n i by rw [aL, if_pos (by omega)]]) | (rw [show R 70 = aL R T n i by rw [aL, if_neg (by omega)]])
          rw [show T 0 i + T 2 i = aE T i from rfl, show T 1 i + T 2 i = aE T i + aW T i by omega]
          refine tl_istore rfl (Nat.le_of_ble_eq_true rfl) rfl ?_
          refine tl_iconst rfl ?_
          refine tl_istore rfl (Nat.le_of_ble_eq_true rfl) rfl ?_
          refine tl_iconst rfl ?_
          refine tl_istore rfl (Nat.le_of_ble_eq_true rfl) rfl ?_
          refine tl_iconst rfl ?_
          show jT _ _ 94 _ _ _ _
          refine tl_istore rfl (Nat.le_of_ble_eq_true rfl) rfl ?_
          refine tl_iconst rfl ?_
          refine tl_istore rfl (Nat.le_of_ble_eq_true rfl) rfl ?_
          show jT _ _ 99 _ _ _ _
          -- leaf 0 at 99
          exact k_fw_lp l h R hR hg hl hRt T n nx ci hn t0 t1 t2 i hi9 _ ⟨_, rfl, rfl, rfl⟩ _ 0 (Nat.lt_succ_self _) ⟨Nat.zero_le _, fun j hj => by omega⟩
        · show jT _ _ 59 _ _ _ _
          refine tl_iload_n rfl rfl ?_
          refine tl_iconst rfl ?_
          refine tl_iadd rfl ?_
          refine tl_bipush rfl rfl ?_
          refine tl_icmp_ge (tgt := 78) rfl rfl ⟨by omega, by omega⟩ ⟨by omega, by omega⟩ (fun c5 => ?_) (fun c5 => ?_)
          · skip
            refine tl_aload_n rfl rfl ?_
            show jT _ _ 79 _ _ _ _
            refine tl_getr (c := 9) (k9 := 1) (b := 4) rfl rfl rfl rfl ?_
            refine tl_geti (c := 8) (k9 := 1) rfl rfl rfl ?_
            rw [hR.o70]
            show jT _ _ 85 _ _ _ _
            -- leaf 3 at 85
            first | (rw [show T 0 (i + 1) = aL R T n i by rw [aL, if_pos (by omega)]]) | (rw [show R 70 = aL R T n i by rw [aL, if_neg (by omega)]])
            rw [show T 0 i + T 2 i = aE T i from rfl, show T 1 i + T 2 i = aE T i + aW T i by omega]
            refine tl_istore rfl (Nat.le_of_ble_eq_true rfl) rfl ?_
            refine tl_iconst rfl ?_
            refine tl_istore rfl (Nat.le_of_ble_eq_true rfl) rfl ?_
            refine tl_iconst rfl ?_
            refine tl_istore rfl (Nat.le_of_ble_eq_true rfl) rfl ?_
            refine tl_iconst rfl ?_
            show jT _ _ 94 _ _ _ _
            refine tl_istore rfl (Nat.le_of_ble_eq_true rfl) rfl ?_
            refine tl_iconst rfl ?_
            refine tl_istore rfl (Nat.le_of_ble_eq_true rfl) rfl ?_
            show jT _ _ 99 _ _ _ _
            -- leaf 0 at 99
            exact k_fw_lp l h R hR hg hl hRt T n nx ci hn t0 t1 t2 i hi9 _ ⟨_, rfl, rfl, rfl⟩ _ 0 (Nat.lt_succ_self _) ⟨Nat.zero_le _, fun j hj => by omega⟩
          · show jT _ _ 67 _ _ _ _
            refine tl_aload_n rfl rfl ?_
            refine tl_getr (c := 0) (k9 := 0) (b := 320) rfl rfl rfl rfl ?_
            refine tl_iload_n rfl rfl ?_
            refine tl_iconst rfl ?_
            refine tl_iadd rfl ?_
            show jT _ _ 74 _ _ _ _
            refine tl_iald (n := 64) rfl rfl rfl (by omega) (by omega) ?_
            rw [show ((i : Int) + 1).toNat = i + 1 by omega, t0 (i + 1) (by omega)]
            refine tl_goto (tgt := 85) rfl rfl ?_
            show jT _ _ 85 _ _ _ _
            -- leaf 4 at 85
            first | (rw [show T 0 (i + 1) = aL R T n i by rw [aL, if_pos (by omega)]]) | (rw [show R 70 = aL R T n i by rw [aL, if_neg (by omega)]])
            rw [show T 0 i + T 2 i = aE T i from rfl, show T 1 i + T 2 i = aE T i + aW T i by omega]
            refine tl_istore rfl (Nat.le_of_ble_eq_true rfl) rfl ?_
            refine tl_iconst rfl ?_
            refine tl_istore rfl (Nat.le_of_ble_eq_true rfl) rfl ?_
            refine tl_iconst rfl ?_
            refine tl_istore rfl (Nat.le_of_ble_eq_true rfl) rfl ?_
            refine tl_iconst rfl ?_
            show jT _ _ 94 _ _ _ _
            refine tl_istore rfl (Nat.le_of_ble_eq_true rfl) rfl ?_
            refine tl_iconst rfl ?_
            refine tl_istore rfl (Nat.le_of_ble_eq_true rfl) rfl ?_
            show jT _ _ 99 _ _ _ _
            -- leaf 0 at 99
            exact k_fw_lp l h R hR hg hl hRt T n nx ci hn t0 t1 t2 i hi9 _ ⟨_, rfl, rfl, rfl⟩ _ 0 (Nat.lt_succ_self _) ⟨Nat.zero_le _, fun j hj => by omega⟩
      · show jT _ _ 18 _ _ _ _
        refine tl_iconst rfl ?_
        refine tl_iret rfl ?_
        -- leaf 5 at 19
        exfalso; omega
set_option maxRecDepth 20000 in
set_option maxHeartbeats 1000000 in
theorem k_bk_lp (l : Launch) (h : jH) (R : Nat → Int) (hR : RS h 1 R) (hg : h 319 7 = R 2) (hl : h 319 8 = R 3) (hRt : Rt R) (T : jH) (n : Nat) (nx : Int) (ci : CI R T n nx) (hn : h 319 5 = (n : Int)) (t0 : ∀ i, i < n → h 320 i = T 0 i) (t1 : ∀ i, i < n → h 321 i = T 1 i) (t2 : ∀ i, i < n → h 322 i = T 2 i) (i : Nat) (hi9 : i < n) (i09 : i ≠ 0) (P : Option Value → jH → Prop) (hP : P (some (.int (jI (bk R T i)))) h) : ∀ (m : Nat) (k : Nat), 64 - k < m → (k ≤ 64 ∧ ∀ j, j < k → bkP R T i j = true) → jT l 7 51 [some (.ref 319), some (.ref 1), some (.int (jI ((i : Int)))), some (.int (jI (aE T (i - 1)))), some (.int (jI (bsS (bkF R T i) k))), some (.int (jI (bsM (bkF R T i) k))), some (.int (jI (bsI (bkF R T i) k))), some (.int (jI (((k : Nat) : Int) + 1)))] [] h P := by
  have ok := hR.ok
  obtain ⟨k1, k2, k3, k4, k5, k6, k7⟩ := ok
  have ok := hR.ok
  have bd := ci.bds ok hi9
  have ll := ci.lim hi9
  have n33 := ci.n33 ok
  have bd2 := ci.bds ok (i := i - 1) (by omega)
  intro m
  induction m with
  | zero => intro k hk; omega
  | succ m ih =>
    intro k hk hi
    obtain ⟨i0, i1⟩ := hi
    have bb := bs_b (f := (bkF R T i)) (c := 9) (fun j => ws_b hRt _ _) (by omega) k
    have es : bsS (bkF R T i) (k + 1) = bsS (bkF R T i) k + (bkF R T i) k := rfl
    have em : bsM (bkF R T i) (k + 1) = if bsM (bkF R T i) k < bsS (bkF R T i) (k + 1) then bsS (bkF R T i) (k + 1) else bsM (bkF R T i) k := rfl
    have ei : bsI (bkF R T i) (k + 1) = if bsM (bkF R T i) k < bsS (bkF R T i) (k + 1) then (k : Int) + 1 else bsI (bkF R T i) k := rfl
    have wb : -9 ≤ (bkF R T i) k ∧ (bkF R T i) k ≤ 9 := ws_b hRt _ _
    have eo : T 1 i - ((k : Int) + 1) = T 1 i - 1 - (k : Int) := by omega
    refine tl_aload_n rfl rfl ?_
    refine tl_getr (c := 0) (k9 := 0) (b := 320) rfl rfl rfl rfl ?_
    refine tl_iload_n rfl rfl ?_
    refine tl_iald (n := 64) rfl rfl rfl (by omega) (by omega) ?_
    rw [Int.toNat_natCast, t0 i hi9]
    refine tl_iload rfl rfl ?_
    refine tl_isub rfl ?_
    show jT _ _ 60 _ _ _ _
    refine tl_iload_n rfl rfl ?_
    refine tl_icmp_lt (tgt := 129) rfl rfl ⟨by omega, by omega⟩ ⟨by omega, by omega⟩ (fun c1 => ?_) (fun c1 => ?_)
    · skip
      refine tl_iload rfl rfl ?_
      refine tl_iret rfl ?_
      -- leaf 0 at 131
      have e : bkN R T i = k := fst_uniq (Nat.zero_le _) (by omega) (fun q _ hq => i1 q hq) (by first | exact bkP_f1 (by omega) | (rw [eo] at e1; exact bkP_f2 e1))
      rw [bk, if_neg i09, e] at hP
      exact hP
    · show jT _ _ 64 _ _ _ _
      refine tl_aload_n rfl rfl ?_
      refine tl_aload_n rfl rfl ?_
      refine tl_getr (c := 0) (k9 := 1) (b := 321) rfl rfl rfl rfl ?_
      show jT _ _ 69 _ _ _ _
      refine tl_iload_n rfl rfl ?_
      refine tl_iald (n := 64) rfl rfl rfl (by omega) (by omega) ?_
      rw [Int.toNat_natCast, t1 i hi9]
      refine tl_iload rfl rfl ?_
      refine tl_isub rfl ?_
      refine tl_v1i (c9 := 9) (k_isOpen l h R hR (T 1 i - ((k : Int) + 1)) ⟨by omega, by omega⟩) rfl rfl rfl rfl rfl (Nat.le_of_ble_eq_true rfl) (fun z1 h1 p1 => ?_)
      obtain ⟨q1, rfl⟩ := p1
      have q1 := q1.symm
      subst q1
      have b1 := zb_b (opn R (T 1 i - ((k : Int) + 1)))
      refine tl_if_eq (tgt := 129) rfl rfl ⟨by omega, by omega⟩ (fun c2 => ?_) (fun c2 => ?_)
      · skip
        have e1 := zb0 c2
        refine tl_iload rfl rfl ?_
        show jT _ _ 131 _ _ _ _
        refine tl_iret rfl ?_
        -- leaf 1 at 131
        have e : bkN R T i = k := fst_uniq (Nat.zero_le _) (by omega) (fun q _ hq => i1 q hq) (by first | exact bkP_f1 (by omega) | (rw [eo] at e1; exact bkP_f2 e1))
        rw [bk, if_neg i09, e] at hP
        exact hP
      · show jT _ _ 80 _ _ _ _
        have e1 := zb1' c2
        refine tl_iload rfl rfl ?_
        refine tl_aload_n rfl rfl ?_
        refine tl_aload_n rfl rfl ?_
        refine tl_aload_n rfl rfl ?_
        refine tl_getr (c := 0) (k9 := 0) (b := 320) rfl rfl rfl rfl ?_
        refine tl_iload_n rfl rfl ?_
        show jT _ _ 89 _ _ _ _
        refine tl_iald (n := 64) rfl rfl rfl (by omega) (by omega) ?_
        rw [Int.toNat_natCast, t0 i hi9]
        refine tl_iload rfl rfl ?_
        refine tl_isub rfl ?_
        refine tl_aload_n rfl rfl ?_
        refine tl_getr (c := 0) (k9 := 1) (b := 321) rfl rfl rfl rfl ?_
        refine tl_iload_n rfl rfl ?_
        refine tl_iald (n := 64) rfl rfl rfl (by omega) (by omega) ?_
        rw [Int.toNat_natCast, t1 i hi9]
        show jT _ _ 99 _ _ _ _
        refine tl_iload rfl rfl ?_
        refine tl_isub rfl ?_
        refine tl_v3i (c9 := 0) (k_worth l h R hR hg hl (T 0 i - ((k : Int) + 1)) (T 1 i - ((k : Int) + 1)) ⟨by omega, by omega⟩ ⟨by omega, by omega⟩) rfl rfl rfl rfl rfl (Nat.le_of_ble_eq_true rfl) (fun z3 h3 p3 => ?_)
        obtain ⟨q3, p3⟩ := p3
        have q3 := q3.symm
        subst q3
        have e3 : z3 = bkF R T i k := by rw [p3]; show _ = ws R _ _; congr 1 <;> omega
        clear p3
        subst e3
        refine tl_iadd rfl ?_
        refine tl_istore rfl (Nat.le_of_ble_eq_true rfl) rfl ?_
        refine tl_iload rfl rfl ?_
        refine tl_iload rfl rfl ?_
        show jT _ _ 112 _ _ _ _
        refine tl_icmp_le (tgt := 123) rfl rfl ⟨by omega, by omega⟩ ⟨by omega, by omega⟩ (fun c3 => ?_) (fun c3 => ?_)
        · skip
          refine tl_iinc rfl rfl rfl ?_
          refine tl_goto (tgt := 51) rfl rfl ?_
          show jT _ _ 51 _ _ _ _
          -- leaf 2 at 51
          rw [eo] at e1
          have k63 : k < 64 := by
            have := opn_t e1
            omega
          refine jT.loc ?_ (ih (k + 1) (by omega) ⟨by omega, fun q hq => ?_⟩)
          · first | (rw [em, ei, if_pos (by omega), if_pos (by omega), show ((k + 1 : Nat) : Int) + 1 = (k : Int) + 1 + 1 by omega]; rfl) | (rw [em, ei, if_neg (by omega), if_neg (by omega), show ((k + 1 : Nat) : Int) + 1 = (k : Int) + 1 + 1 by omega]; rfl)
          · by_cases c : q = k
            · subst c; exact bkP_t' (by omega) e1
            · exact i1 q (by omega)
        · show jT _ _ 115 _ _ _ _
          refine tl_iload rfl rfl ?_
          refine tl_istore rfl (Nat.le_of_ble_eq_true rfl) rfl ?_
          refine tl_iload rfl rfl ?_
          refine tl_istore rfl (Nat.le_of_ble_eq_true rfl) rfl ?_
          show jT _ _ 123 _ _ _ _
          refine tl_iinc rfl rfl rfl ?_
          refine tl_goto (tgt := 51) rfl rfl ?_
          show jT _ _ 51 _ _ _ _
          -- leaf 3 at 51
          rw [eo] at e1
          have k63 : k < 64 := by
            have := opn_t e1
            omega
          refine jT.loc ?_ (ih (k + 1) (by omega) ⟨by omega, fun q hq => ?_⟩)
          · first | (rw [em, ei, if_pos (by omega), if_pos (by omega), show ((k + 1 : Nat) : Int) + 1 = (k : Int) + 1 + 1 by omega]; rfl) | (rw [em, ei, if_neg (by omega), if_neg (by omega), show ((k + 1 : Nat) : Int) + 1 = (k : Int) + 1 + 1 by omega]; rfl)
          · by_cases c : q = k
            · subst c; exact bkP_t' (by omega) e1
            · exact i1 q (by omega)
set_option maxRecDepth 20000 in
set_option maxHeartbeats 1000000 in
theorem k_reachB (l : Launch) (h : jH) (R : Nat → Int) (hR : RS h 1 R) (hg : h 319 7 = R 2) (hl : h 319 8 = R 3) (hRt : Rt R) (T : jH) (n : Nat) (nx : Int) (ci : CI R T n nx) (hn : h 319 5 = (n : Int)) (t0 : ∀ i, i < n → h 320 i = T 0 i) (t1 : ∀ i, i < n → h 321 i = T 1 i) (t2 : ∀ i, i < n → h 322 i = T 2 i) (i : Nat) (hi9 : i < n) (i09 : i ≠ 0) : cI l 7 [.ref 319, .ref 1, .int (jI (i : Int))] h (fun z h' => h' = h ∧ z = bk R T i) := by
  have ok := hR.ok
  obtain ⟨k1, k2, k3, k4, k5, k6, k7⟩ := ok
  have ok := hR.ok
  have bd := ci.bds ok hi9
  have ll := ci.lim hi9
  have n33 := ci.n33 ok
  have bd2 := ci.bds ok (i := i - 1) (by omega)
  refine cI.of rfl rfl ?_
  refine tl_iload_n rfl rfl ?_
  refine tl_iconst rfl ?_
  refine tl_icmp_lt (tgt := 19) rfl rfl ⟨by omega, by omega⟩ ⟨by omega, by omega⟩ (fun c1 => ?_) (fun c1 => ?_)
  · skip
    refine tl_iconst rfl ?_
    refine tl_iret rfl ?_
    -- leaf 0 at 20
    exfalso; omega
  · show jT _ _ 5 _ _ _ _
    refine tl_iload_n rfl rfl ?_
    show jT _ _ 6 _ _ _ _
    refine tl_aload_n rfl rfl ?_
    refine tl_geti (c := 0) (k9 := 5) rfl rfl rfl ?_
    rw [hn]
    refine tl_icmp_ge (tgt := 19) rfl rfl ⟨by omega, by omega⟩ ⟨by omega, by omega⟩ (fun c2 => ?_) (fun c2 => ?_)
    · skip
      refine tl_iconst rfl ?_
      refine tl_iret rfl ?_
      -- leaf 1 at 20
      exfalso; omega
    · show jT _ _ 13 _ _ _ _
      refine tl_iload_n rfl rfl ?_
      refine tl_bipush rfl rfl ?_
      show jT _ _ 16 _ _ _ _
      refine tl_icmp_lt (tgt := 21) rfl rfl ⟨by omega, by omega⟩ ⟨by omega, by omega⟩ (fun c3 => ?_) (fun c3 => ?_)
      · skip
        refine tl_aload_n rfl rfl ?_
        refine tl_getr (c := 0) (k9 := 0) (b := 320) rfl rfl rfl rfl ?_
        refine tl_iload_n rfl rfl ?_
        refine tl_iconst rfl ?_
        refine tl_isub rfl ?_
        refine tl_iald (n := 64) rfl rfl rfl (by omega) (by omega) ?_
        rw [show ((i : Int) - 1).toNat = i - 1 by omega, t0 (i - 1) (by omega)]
        show jT _ _ 29 _ _ _ _
        refine tl_aload_n rfl rfl ?_
        refine tl_getr (c := 0) (k9 := 2) (b := 322) rfl rfl rfl rfl ?_
        refine tl_iload_n rfl rfl ?_
        refine tl_iconst rfl ?_
        refine tl_isub rfl ?_
        refine tl_iald (n := 64) rfl rfl rfl (by omega) (by omega) ?_
        rw [show ((i : Int) - 1).toNat = i - 1 by omega, t2 (i - 1) (by omega)]
        refine tl_iadd rfl ?_
        show jT _ _ 38 _ _ _ _
        refine tl_istore_n rfl (Nat.le_of_ble_eq_true rfl) rfl ?_
        refine tl_iconst rfl ?_
        refine tl_istore rfl (Nat.le_of_ble_eq_true rfl) rfl ?_
        refine tl_iconst rfl ?_
        refine tl_istore rfl (Nat.le_of_ble_eq_true rfl) rfl ?_
        refine tl_iconst rfl ?_
        refine tl_istore rfl (Nat.le_of_ble_eq_true rfl) rfl ?_
        show jT _ _ 48 _ _ _ _
        refine tl_iconst rfl ?_
        refine tl_istore rfl (Nat.le_of_ble_eq_true rfl) rfl ?_
        show jT _ _ 51 _ _ _ _
        -- leaf 2 at 51
        exact k_bk_lp l h R hR hg hl hRt T n nx ci hn t0 t1 t2 i hi9 i09 _ ⟨_, rfl, rfl, rfl⟩ _ 0 (Nat.lt_succ_self _) ⟨Nat.zero_le _, fun j hj => by omega⟩
      · show jT _ _ 19 _ _ _ _
        refine tl_iconst rfl ?_
        refine tl_iret rfl ?_
        -- leaf 3 at 20
        exfalso; omega
set_option maxRecDepth 20000 in
set_option maxHeartbeats 1000000 in
theorem k_sh_lp (l : Launch) (h : jH) (R : Nat → Int) (hR : RS h 1 R) (hg : h 319 7 = R 2) (hl : h 319 8 = R 3) (hRt : Rt R) (T : jH) (n : Nat) (ti : TI R T n) (hn : h 319 5 = (n : Int)) (tk : ∀ r, r < 5 → ∀ i, i < n → h (320 + r) i = T r i) (i : Nat) (hi9 : i + 1 < n) (hlt : (T 0 (i + 1) - T 4 (i + 1)) < (aE T i + T 3 i)) (P : Option Value → jH → Prop) (hx : jT l 8 174 [some (.ref 319), some (.ref 1), some (.int (jI ((i : Int)))), some (.int (jI ((i : Int) + 1))), some (.int (jI ((T 0 (i + 1) - T 4 (i + 1))))), some (.int (jI ((aE T i + T 3 i)))), some (.int (jI (aW T i))), some (.int (jI (aW T (i + 1)))), some (.int (jI (bsS (shF R T i (T 0 (i + 1) - T 4 (i + 1))) ((aE T i + T 3 i) - (T 0 (i + 1) - T 4 (i + 1))).toNat))), some (.int (jI (bsM (shF R T i (T 0 (i + 1) - T 4 (i + 1))) ((aE T i + T 3 i) - (T 0 (i + 1) - T 4 (i + 1))).toNat))), some (.int (jI (bsI (shF R T i (T 0 (i + 1) - T 4 (i + 1))) ((aE T i + T 3 i) - (T 0 (i + 1) - T 4 (i + 1))).toNat))), some (.int (jI ((T 0 (i + 1) - T 4 (i + 1)) + ((((aE T i + T 3 i) - (T 0 (i + 1) - T 4 (i + 1))).toNat : Nat) : Int))))] [] h P) : ∀ (m : Nat) (k : Nat), ((aE T i + T 3 i) - (T 0 (i + 1) - T 4 (i + 1))).toNat - k < m → (k ≤ ((aE T i + T 3 i) - (T 0 (i + 1) - T 4 (i + 1))).toNat) → jT l 8 111 [some (.ref 319), some (.ref 1), some (.int (jI ((i : Int)))), some (.int (jI ((i : Int) + 1))), some (.int (jI ((T 0 (i + 1) - T 4 (i + 1))))), some (.int (jI ((aE T i + T 3 i)))), some (.int (jI (aW T i))), some (.int (jI (aW T (i + 1)))), some (.int (jI (bsS (shF R T i (T 0 (i + 1) - T 4 (i + 1))) k))), some (.int (jI (bsM (shF R T i (T 0 (i + 1) - T 4 (i + 1))) k))), some (.int (jI (bsI (shF R T i (T 0 (i + 1) - T 4 (i + 1))) k))), some (.int (jI ((T 0 (i + 1) - T 4 (i + 1)) + ((k : Nat) : Int))))] [] h P := by
  have ok := hR.ok
  obtain ⟨k1, k2, k3, k4, k5, k6, k7⟩ := ok
  have ok := hR.ok
  have bd := ti.1.bds ok (i := i) (by omega)
  have bd2 := ti.1.bds ok hi9
  have n33 := ti.1.n33 ok
  have r1 := ti.2 i (by omega)
  have r2 := ti.2 (i + 1) hi9
  rw [aL, if_pos hi9] at r1
  rw [if_neg (by omega), show i + 1 - 1 = i by omega] at r2
  obtain ⟨⟨r11, r12⟩, ⟨r13, r14⟩, r15⟩ := r1
  obtain ⟨⟨r21, r22⟩, ⟨r23, r24⟩, r25⟩ := r2
  intro m
  induction m with
  | zero => intro k hk; omega
  | succ m ih =>
    intro k hk hi
    have bb := bs_b (f := (shF R T i (T 0 (i + 1) - T 4 (i + 1)))) (c := 18) (fun j => by have a := ws_b hRt ((T 0 (i + 1) - T 4 (i + 1)) + (j : Int)) ((T 0 (i + 1) - T 4 (i + 1)) + (j : Int) + aW T i); have b := ws_b hRt ((T 0 (i + 1) - T 4 (i + 1)) + (j : Int)) ((T 0 (i + 1) - T 4 (i + 1)) + (j : Int) + aW T (i + 1)); show -18 ≤ ws R _ _ - ws R _ _ ∧ ws R _ _ - ws R _ _ ≤ 18; omega) (by omega) k
    have es : bsS (shF R T i (T 0 (i + 1) - T 4 (i + 1))) (k + 1) = bsS (shF R T i (T 0 (i + 1) - T 4 (i + 1))) k + (shF R T i (T 0 (i + 1) - T 4 (i + 1))) k := rfl
    have em : bsM (shF R T i (T 0 (i + 1) - T 4 (i + 1))) (k + 1) = if bsM (shF R T i (T 0 (i + 1) - T 4 (i + 1))) k < bsS (shF R T i (T 0 (i + 1) - T 4 (i + 1))) (k + 1) then bsS (shF R T i (T 0 (i + 1) - T 4 (i + 1))) (k + 1) else bsM (shF R T i (T 0 (i + 1) - T 4 (i + 1))) k := rfl
    have ei : bsI (shF R T i (T 0 (i + 1) - T 4 (i + 1))) (k + 1) = if bsM (shF R T i (T 0 (i + 1) - T 4 (i + 1))) k < bsS (shF R T i (T 0 (i + 1) - T 4 (i + 1))) (k + 1) then (k : Int) + 1 else bsI (shF R T i (T 0 (i + 1) - T 4 (i + 1))) k := rfl
    have wb : (shF R T i (T 0 (i + 1) - T 4 (i + 1))) k = ws R ((T 0 (i + 1) - T 4 (i + 1)) + (k : Int)) ((T 0 (i + 1) - T 4 (i + 1)) + (k : Int) + aW T i) - ws R ((T 0 (i + 1) - T 4 (i + 1)) + (k : Int)) ((T 0 (i + 1) - T 4 (i + 1)) + (k : Int) + aW T (i + 1)) := rfl
    have w1 := ws_b hRt ((T 0 (i + 1) - T 4 (i + 1)) + (k : Int)) ((T 0 (i + 1) - T 4 (i + 1)) + (k : Int) + aW T i)
    have w2 := ws_b hRt ((T 0 (i + 1) - T 4 (i + 1)) + (k : Int)) ((T 0 (i + 1) - T 4 (i + 1)) + (k : Int) + aW T (i + 1))
    refine tl_iload rfl rfl ?_
    refine tl_iload rfl rfl ?_
    refine tl_icmp_ge (tgt := 174) rfl rfl ⟨by omega, by omega⟩ ⟨by omega, by omega⟩ (fun c1 => ?_) (fun c1 => ?_)
    · skip
      show jT _ _ 174 _ _ _ _
      -- leaf 0 at 174
      have e : k = ((aE T i + T 3 i) - (T 0 (i + 1) - T 4 (i + 1))).toNat := by omega
      rw [e]
      exact hx
    · show jT _ _ 118 _ _ _ _
      refine tl_iload rfl rfl ?_
      refine tl_aload_n rfl rfl ?_
      refine tl_aload_n rfl rfl ?_
      show jT _ _ 122 _ _ _ _
      refine tl_iload rfl rfl ?_
      refine tl_iload rfl rfl ?_
      refine tl_iload rfl rfl ?_
      refine tl_iadd rfl ?_
      refine tl_v3i (c9 := 0) (k_worth l h R hR hg hl ((T 0 (i + 1) - T 4 (i + 1)) + (k : Int)) ((T 0 (i + 1) - T 4 (i + 1)) + (k : Int) + aW T i) ⟨by omega, by omega⟩ ⟨by omega, by omega⟩) rfl rfl rfl rfl rfl (Nat.le_of_ble_eq_true rfl) (fun z3 h3 p3 => ?_)
      obtain ⟨q3, rfl⟩ := p3
      have q3 := q3.symm
      subst q3
      refine tl_aload_n rfl rfl ?_
      refine tl_aload_n rfl rfl ?_
      show jT _ _ 134 _ _ _ _
      refine tl_iload rfl rfl ?_
      refine tl_iload rfl rfl ?_
      refine tl_iload rfl rfl ?_
      refine tl_iadd rfl ?_
      refine tl_v3i (c9 := 0) (k_worth l h R hR hg hl ((T 0 (i + 1) - T 4 (i + 1)) + (k : Int)) ((T 0 (i + 1) - T 4 (i + 1)) + (k : Int) + aW T (i + 1)) ⟨by omega, by omega⟩ ⟨by omega, by omega⟩) rfl rfl rfl rfl rfl (Nat.le_of_ble_eq_true rfl) (fun z4 h4 p4 => ?_)
      obtain ⟨q4, rfl⟩ := p4
      have q4 := q4.symm
      subst q4
      refine tl_isub rfl ?_
      refine tl_iadd rfl ?_
      show jT _ _ 146 _ _ _ _
      refine tl_istore rfl (Nat.le_of_ble_eq_true rfl) rfl ?_
      refine tl_iload rfl rfl ?_
      refine tl_iload rfl rfl ?_
      refine tl_icmp_le (tgt := 168) rfl rfl ⟨by omega, by omega⟩ ⟨by omega, by omega⟩ (fun c2 => ?_) (fun c2 => ?_)
      · skip
        refine tl_iinc rfl rfl rfl ?_
        refine tl_goto (tgt := 111) rfl rfl ?_
        show jT _ _ 111 _ _ _ _
        -- leaf 1 at 111
        rw [← wb]
        refine jT.loc ?_ (ih (k + 1) (by omega) (by omega))
        first | (rw [em, ei, if_pos (by omega), if_pos (by omega), show (T 0 (i + 1) - T 4 (i + 1)) + ((k + 1 : Nat) : Int) = (T 0 (i + 1) - T 4 (i + 1)) + (k : Int) + 1 by omega, show (T 0 (i + 1) - T 4 (i + 1)) + (k : Int) - (T 0 (i + 1) - T 4 (i + 1)) + 1 = (k : Int) + 1 by omega]; rfl) | (rw [em, ei, if_neg (by omega), if_neg (by omega), show (T 0 (i + 1) - T 4 (i + 1)) + ((k + 1 : Nat) : Int) = (T 0 (i + 1) - T 4 (i + 1)) + (k : Int) + 1 by omega]; rfl)
      · show jT _ _ 155 _ _ _ _
        refine tl_iload rfl rfl ?_
        show jT _ _ 157 _ _ _ _
        refine tl_istore rfl (Nat.le_of_ble_eq_true rfl) rfl ?_
        refine tl_iload rfl rfl ?_
        refine tl_iload rfl rfl ?_
        refine tl_isub rfl ?_
        refine tl_iconst rfl ?_
        refine tl_iadd rfl ?_
        refine tl_istore rfl (Nat.le_of_ble_eq_true rfl) rfl ?_
        show jT _ _ 168 _ _ _ _
        refine tl_iinc rfl rfl rfl ?_
        refine tl_goto (tgt := 111) rfl rfl ?_
        show jT _ _ 111 _ _ _ _
        -- leaf 2 at 111
        rw [← wb]
        refine jT.loc ?_ (ih (k + 1) (by omega) (by omega))
        first | (rw [em, ei, if_pos (by omega), if_pos (by omega), show (T 0 (i + 1) - T 4 (i + 1)) + ((k + 1 : Nat) : Int) = (T 0 (i + 1) - T 4 (i + 1)) + (k : Int) + 1 by omega, show (T 0 (i + 1) - T 4 (i + 1)) + (k : Int) - (T 0 (i + 1) - T 4 (i + 1)) + 1 = (k : Int) + 1 by omega]; rfl) | (rw [em, ei, if_neg (by omega), if_neg (by omega), show (T 0 (i + 1) - T 4 (i + 1)) + ((k + 1 : Nat) : Int) = (T 0 (i + 1) - T 4 (i + 1)) + (k : Int) + 1 by omega]; rfl)
set_option maxRecDepth 20000 in
set_option maxHeartbeats 1000000 in
theorem k_share (l : Launch) (h : jH) (R : Nat → Int) (hR : RS h 1 R) (hg : h 319 7 = R 2) (hl : h 319 8 = R 3) (hRt : Rt R) (T : jH) (n : Nat) (ti : TI R T n) (hn : h 319 5 = (n : Int)) (tk : ∀ r, r < 5 → ∀ i, i < n → h (320 + r) i = T r i) (i : Nat) (hi9 : i + 1 < n) : cV l 8 [.ref 319, .ref 1, .int (jI (i : Int))] h (fun h' => (∀ r, r < 5 → ∀ q, q < n → h' (320 + r) q = shr R T i r q) ∧ ∀ x, (x < 323 ∨ 324 < x) → h' x = h x) := by
  have ok := hR.ok
  obtain ⟨k1, k2, k3, k4, k5, k6, k7⟩ := ok
  have ok := hR.ok
  have bd := ti.1.bds ok (i := i) (by omega)
  have bd2 := ti.1.bds ok hi9
  have n33 := ti.1.n33 ok
  have r1 := ti.2 i (by omega)
  have r2 := ti.2 (i + 1) hi9
  rw [aL, if_pos hi9] at r1
  rw [if_neg (by omega), show i + 1 - 1 = i by omega] at r2
  obtain ⟨⟨r11, r12⟩, ⟨r13, r14⟩, r15⟩ := r1
  obtain ⟨⟨r21, r22⟩, ⟨r23, r24⟩, r25⟩ := r2
  refine cV.of rfl rfl ?_
  refine tl_iload_n rfl rfl ?_
  refine tl_iconst rfl ?_
  refine tl_iadd rfl ?_
  refine tl_istore_n rfl (Nat.le_of_ble_eq_true rfl) rfl ?_
  refine tl_iload_n rfl rfl ?_
  refine tl_if_lt (tgt := 22) rfl rfl ⟨by omega, by omega⟩ (fun c1 => ?_) (fun c1 => ?_)
  · skip
    show jT _ _ 22 _ _ _ _
    refine tl_ret rfl ?_
    -- leaf 0 at 22
    exfalso; omega
  · show jT _ _ 8 _ _ _ _
    refine tl_iload_n rfl rfl ?_
    refine tl_aload_n rfl rfl ?_
    refine tl_geti (c := 0) (k9 := 5) rfl rfl rfl ?_
    rw [hn]
    refine tl_icmp_ge (tgt := 22) rfl rfl ⟨by omega, by omega⟩ ⟨by omega, by omega⟩ (fun c2 => ?_) (fun c2 => ?_)
    · skip
      refine tl_ret rfl ?_
      -- leaf 1 at 22
      exfalso; omega
    · show jT _ _ 16 _ _ _ _
      refine tl_iload_n rfl rfl ?_
      show jT _ _ 17 _ _ _ _
      refine tl_bipush rfl rfl ?_
      refine tl_icmp_lt (tgt := 23) rfl rfl ⟨by omega, by omega⟩ ⟨by omega, by omega⟩ (fun c3 => ?_) (fun c3 => ?_)
      · skip
        refine tl_aload_n rfl rfl ?_
        refine tl_getr (c := 0) (k9 := 0) (b := 320) rfl rfl rfl rfl ?_
        refine tl_iload_n rfl rfl ?_
        refine tl_iald (n := 64) rfl rfl rfl (by omega) (by omega) ?_
        rw [show ((i : Int) + 1).toNat = i + 1 by omega, show h 320 (i + 1) = T 0 (i + 1) from tk 0 (by omega) (i + 1) hi9]
        refine tl_aload_n rfl rfl ?_
        show jT _ _ 30 _ _ _ _
        refine tl_getr (c := 0) (k9 := 4) (b := 324) rfl rfl rfl rfl ?_
        refine tl_iload_n rfl rfl ?_
        refine tl_iald (n := 64) rfl rfl rfl (by omega) (by omega) ?_
        rw [show ((i : Int) + 1).toNat = i + 1 by omega, show h 324 (i + 1) = T 4 (i + 1) from tk 4 (by omega) (i + 1) hi9]
        refine tl_isub rfl ?_
        refine tl_istore rfl (Nat.le_of_ble_eq_true rfl) rfl ?_
        refine tl_aload_n rfl rfl ?_
        refine tl_getr (c := 0) (k9 := 0) (b := 320) rfl rfl rfl rfl ?_
        show jT _ _ 42 _ _ _ _
        refine tl_iload_n rfl rfl ?_
        refine tl_iald (n := 64) rfl rfl rfl (by omega) (by omega) ?_
        rw [Int.toNat_natCast, show h 320 (i) = T 0 (i) from tk 0 (by omega) (i) (by omega)]
        refine tl_aload_n rfl rfl ?_
        refine tl_getr (c := 0) (k9 := 2) (b := 322) rfl rfl rfl rfl ?_
        refine tl_iload_n rfl rfl ?_
        refine tl_iald (n := 64) rfl rfl rfl (by omega) (by omega) ?_
        rw [Int.toNat_natCast, show h 322 (i) = T 2 (i) from tk 2 (by omega) (i) (by omega)]
        refine tl_iadd rfl ?_
        show jT _ _ 51 _ _ _ _
        refine tl_aload_n rfl rfl ?_
        refine tl_getr (c := 0) (k9 := 3) (b := 323) rfl rfl rfl rfl ?_
        refine tl_iload_n rfl rfl ?_
        refine tl_iald (n := 64) rfl rfl rfl (by omega) (by omega) ?_
        rw [Int.toNat_natCast, show h 323 (i) = T 3 (i) from tk 3 (by omega) (i) (by omega)]
        refine tl_iadd rfl ?_
        refine tl_istore rfl (Nat.le_of_ble_eq_true rfl) rfl ?_
        refine tl_iload rfl rfl ?_
        show jT _ _ 62 _ _ _ _
        refine tl_iload rfl rfl ?_
        refine tl_icmp_gt (tgt := 68) rfl rfl ⟨by omega, by omega⟩ ⟨by omega, by omega⟩ (fun c4 => ?_) (fun c4 => ?_)
        · skip
          refine tl_aload_n rfl rfl ?_
          refine tl_getr (c := 0) (k9 := 1) (b := 321) rfl rfl rfl rfl ?_
          refine tl_iload_n rfl rfl ?_
          refine tl_iald (n := 64) rfl rfl rfl (by omega) (by omega) ?_
          rw [Int.toNat_natCast, show h 321 (i) = T 1 (i) from tk 1 (by omega) (i) (by omega)]
          refine tl_aload_n rfl rfl ?_
          show jT _ _ 75 _ _ _ _
          refine tl_getr (c := 0) (k9 := 0) (b := 320) rfl rfl rfl rfl ?_
          refine tl_iload_n rfl rfl ?_
          refine tl_iald (n := 64) rfl rfl rfl (by omega) (by omega) ?_
          rw [Int.toNat_natCast, show h 320 (i) = T 0 (i) from tk 0 (by omega) (i) (by omega)]
          refine tl_isub rfl ?_
          refine tl_istore rfl (Nat.le_of_ble_eq_true rfl) rfl ?_
          refine tl_aload_n rfl rfl ?_
          refine tl_getr (c := 0) (k9 := 1) (b := 321) rfl rfl rfl rfl ?_
          show jT _ _ 87 _ _ _ _
          refine tl_iload_n rfl rfl ?_
          refine tl_iald (n := 64) rfl rfl rfl (by omega) (by omega) ?_
          rw [show ((i : Int) + 1).toNat = i + 1 by omega, show h 321 (i + 1) = T 1 (i + 1) from tk 1 (by omega) (i + 1) hi9]
          refine tl_aload_n rfl rfl ?_
          refine tl_getr (c := 0) (k9 := 0) (b := 320) rfl rfl rfl rfl ?_
          refine tl_iload_n rfl rfl ?_
          refine tl_iald (n := 64) rfl rfl rfl (by omega) (by omega) ?_
          rw [show ((i : Int) + 1).toNat = i + 1 by omega, show h 320 (i + 1) = T 0 (i + 1) from tk 0 (by omega) (i + 1) hi9]
          refine tl_isub rfl ?_
          show jT _ _ 96 _ _ _ _
          refine tl_istore rfl (Nat.le_of_ble_eq_true rfl) rfl ?_
          refine tl_iconst rfl ?_
          refine tl_istore rfl (Nat.le_of_ble_eq_true rfl) rfl ?_
          refine tl_iconst rfl ?_
          refine tl_istore rfl (Nat.le_of_ble_eq_true rfl) rfl ?_
          refine tl_iconst rfl ?_
          refine tl_istore rfl (Nat.le_of_ble_eq_true rfl) rfl ?_
          show jT _ _ 107 _ _ _ _
          refine tl_iload rfl rfl ?_
          refine tl_istore rfl (Nat.le_of_ble_eq_true rfl) rfl ?_
          show jT _ _ 111 _ _ _ _
          -- leaf 2 at 111
          refine jT.loc ?_ (k_sh_lp l h R hR hg hl hRt T n ti hn tk i hi9 (by omega) _ ?_ _ 0 (Nat.lt_succ_self _) (Nat.zero_le _))
          · rw [show (T 0 (i + 1) - T 4 (i + 1)) + ((0 : Nat) : Int) = (T 0 (i + 1) - T 4 (i + 1)) by omega]
            rfl
          · skip
            refine tl_aload_n rfl rfl ?_
            refine tl_getr (c := 0) (k9 := 3) (b := 323) rfl rfl rfl rfl ?_
            refine tl_iload_n rfl rfl ?_
            refine tl_dup2 rfl rfl rfl ?_
            refine tl_iald (n := 64) rfl rfl rfl (by omega) (by omega) ?_
            rw [Int.toNat_natCast, show h 323 (i) = T 3 (i) from tk 3 (by omega) (i) (by omega)]
            refine tl_iload rfl rfl ?_
            show jT _ _ 183 _ _ _ _
            refine tl_iload rfl rfl ?_
            refine tl_isub rfl ?_
            refine tl_iload rfl rfl ?_
            refine tl_isub rfl ?_
            refine tl_isub rfl ?_
            refine tl_iast (n := 64) rfl rfl rfl (by omega) (by omega) ?_
            refine tl_aload_n rfl rfl ?_
            show jT _ _ 192 _ _ _ _
            refine tl_getr (c := 0) (k9 := 4) (b := 324) rfl rfl rfl rfl ?_
            refine tl_iload_n rfl rfl ?_
            refine tl_dup2 rfl rfl rfl ?_
            refine tl_iald (n := 64) rfl rfl rfl (by omega) (by omega) ?_
            rw [show ((i : Int) + 1).toNat = i + 1 by omega, hs_o (show (324 : Nat) ≠ 323 by decide), show h 324 (i + 1) = T 4 (i + 1) from tk 4 (by omega) (i + 1) hi9]
            refine tl_iload rfl rfl ?_
            refine tl_isub rfl ?_
            refine tl_iast (n := 64) rfl rfl rfl (by omega) (by omega) ?_
            show jT _ _ 202 _ _ _ _
            refine tl_ret rfl ?_
            -- leaf 0 at 202
            refine ⟨rfl, fun r hr q hq => ?_, fun x hx => ?_⟩
            · rw [shr, if_neg (by omega), Int.toNat_natCast, show ((i : Int) + 1).toNat = i + 1 by omega]
              have eg : bsI (shF R T i (T 0 (i + 1) - T 4 (i + 1))) ((aE T i + T 3 i) - (T 0 (i + 1) - T 4 (i + 1))).toNat = shG R T i := rfl
              rw [eg]
              by_cases c3 : r = 3
              · subst c3
                rw [hs_o (show (320 + 3 : Nat) ≠ 324 by decide), hs_o (show (3 : Nat) ≠ 4 by decide)]
                by_cases c : q = i
                · subst c; rw [show (320 + 3 : Nat) = 323 from rfl, hs_s, hs_s]; omega
                · rw [show (320 + 3 : Nat) = 323 from rfl, hs_k c, hs_k c]; exact tk 3 (by omega) q hq
              · by_cases c4 : r = 4
                · subst c4
                  by_cases c : q = i + 1
                  · subst c; rw [show (320 + 4 : Nat) = 324 from rfl, hs_s, hs_s]
                  · rw [show (320 + 4 : Nat) = 324 from rfl, hs_k c, hs_k c, hs_o (by decide), hs_o (by decide)]; exact tk 4 (by omega) q hq
                · rw [hs_o (by omega), hs_o (by omega), hs_o (by omega), hs_o (by omega)]; exact tk r hr q hq
            · rw [hs_O (by omega), hs_O (by omega)]
        · show jT _ _ 67 _ _ _ _
          refine tl_ret rfl ?_
          -- leaf 3 at 67
          refine ⟨rfl, fun r hr q hq => ?_, fun x _ => rfl⟩
          rw [shr, if_pos (by omega)]
          exact tk r hr q hq
      · show jT _ _ 22 _ _ _ _
        refine tl_ret rfl ?_
        -- leaf 4 at 22
        exfalso; omega
