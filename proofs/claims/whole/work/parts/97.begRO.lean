/-! begin, of the reference, as a whole -/
set_option maxRecDepth 20000 in
set_option maxHeartbeats 1000000 in
theorem r_bg_lp (l : Launch) (h : jH) (G : Nat → Int) (N : Int) (n64 : 0 ≤ N ∧ N ≤ 64) (g5 : 0 ≤ G 5 ∧ G 5 ≤ 64) (hn : h 388 25 = N) (ka : Int) (P : Option Value → jH → Prop) (hx : ∀ mem, (mem 390 = grw (max (G 5) N) G ∧ ∀ x, x ≠ 390 → mem x = h x) → jT l 310 135 [some (.ref 388), some (.int (jI (ka))), some (.int (jI (5 + 65 * 0))), none] [] mem P) : ∀ (m : Nat) (v : Nat) (mem : jH), 64 - v < m → ((G 5 ≤ (v : Int) ∧ (v : Int) ≤ max (G 5) N) ∧ mem 390 = grw (v : Int) G ∧ ∀ x, x ≠ 390 → mem x = h x) → jT l 310 95 [some (.ref 388), some (.int (jI (ka))), some (.int (jI (5 + 65 * 0))), none] [] mem P := by
  intro m
  induction m with
  | zero => intro v mem hk; omega
  | succ m ih =>
    intro v mem hk hi
    obtain ⟨i0, kk, fr⟩ := hi
    have e5 : mem 390 5 = (v : Int) := by rw [kk, grw, if_pos rfl]
    have e25 : mem 388 25 = N := by rw [fr 388 (by decide)]; exact hn
    refine tl_aload_n rfl rfl ?_
    refine tl_getr (c := 12) (k9 := 3) (b := 390) rfl rfl rfl rfl ?_
    refine tl_iload_n rfl rfl ?_
    refine tl_iald (n := 1362) rfl rfl rfl (by omega) (by omega) ?_
    rw [show ((5 : Int) + 65 * 0).toNat = 5 from rfl, e5]
    refine tl_aload_n rfl rfl ?_
    refine tl_geti (c := 12) (k9 := 25) rfl rfl rfl ?_
    rw [e25]
    show jT _ _ 105 _ _ _ _
    refine tl_icmp_ge (tgt := 135) rfl rfl ⟨by omega, by omega⟩ ⟨by omega, by omega⟩ (fun c1 => ?_) (fun c1 => ?_)
    · skip
      show jT _ _ 135 _ _ _ _
      -- leaf 0 at 135
      have e : max (G 5) N = (v : Int) := by omega
      rw [e] at hx
      exact hx mem ⟨kk, fr⟩
    · show jT _ _ 108 _ _ _ _
      refine tl_aload_n rfl rfl ?_
      refine tl_getr (c := 12) (k9 := 3) (b := 390) rfl rfl rfl rfl ?_
      refine tl_iload_n rfl rfl ?_
      refine tl_dup2 rfl rfl rfl ?_
      refine tl_iald (n := 1362) rfl rfl rfl (by omega) (by omega) ?_
      rw [show ((5 : Int) + 65 * 0).toNat = 5 from rfl, e5]
      refine tl_iconst rfl ?_
      show jT _ _ 116 _ _ _ _
      refine tl_iadd rfl ?_
      refine tl_iast (n := 1362) rfl rfl rfl (by omega) (by omega) ?_
      rw [show ((5 : Int) + 65 * 0).toNat = 5 from rfl]
      refine tl_aload_n rfl rfl ?_
      refine tl_getr (c := 12) (k9 := 3) (b := 390) rfl rfl rfl rfl ?_
      refine tl_iload_n rfl rfl ?_
      refine tl_aload_n rfl rfl ?_
      refine tl_getr (c := 12) (k9 := 3) (b := 390) rfl rfl rfl rfl ?_
      show jT _ _ 127 _ _ _ _
      refine tl_iload_n rfl rfl ?_
      refine tl_iald (n := 1362) rfl rfl rfl (by omega) (by omega) ?_
      rw [show ((5 : Int) + 65 * 0).toNat = 5 from rfl, hs_s]
      refine tl_iadd rfl ?_
      refine tl_iconst rfl ?_
      refine tl_iast (n := 1362) rfl rfl rfl (by omega) (by omega) ?_
      refine tl_goto (tgt := 95) rfl rfl ?_
      show jT _ _ 95 _ _ _ _
      -- leaf 1 at 95
      rw [show ((5 : Int) + 65 * 0 + ((v : Int) + 1)).toNat = (5 + ((v : Int) + 1)).toNat by omega]
      refine ih (v + 1) _ (by omega) ⟨⟨by omega, by omega⟩, ?_, fun x hx9 => by rw [hs_O hx9, hs_O hx9]; exact fr x hx9⟩
      rw [grw_s kk (by omega)]
      rw [show ((v + 1 : Nat) : Int) = (v : Int) + 1 by omega]
set_option maxRecDepth 20000 in
set_option maxHeartbeats 4000000 in
theorem r_begin (l : Launch) (g h : jH) (t k : Int) (hI0 : IC g h t) (hk : jr k) : cI l 310 [.ref 388, .int (jI k)] h (PRF (Dbegin (Tz h) k)) := by
  have k1 := hk.1
  have k2 := hk.2
  refine cI.of rfl rfl ?_
  refine tl_aload_n rfl rfl ?_
  refine tl_iconst rfl ?_
  refine tl_puti (c := 12) (k9 := 0) rfl rfl rfl rfl ?_
  have hI := hI0.z
  change jT _ _ _ _ _ (Tz h) _
  generalize Tz h = m at hI ⊢
  refine tl_iload_n rfl rfl ?_
  refine tl_s1i (c_isSlotR l _ k ⟨by omega, by omega⟩) rfl rfl rfl (Nat.le_of_ble_eq_true rfl) (fun zs1 hs1 ps1 => ?_)
  obtain ⟨qs1, ps1⟩ := ps1
  have qs1 := qs1.symm
  subst qs1
  have bs1 : zs1 = 0 ∧ (k < 0 ∨ 2 < k) ∨ zs1 = 1 ∧ 0 ≤ k ∧ k ≤ 2 := by rw [ps1]; split <;> omega
  refine tl_if_ne (tgt := 18) rfl rfl ⟨by omega, by omega⟩ (fun c1 => ?_) (fun c1 => ?_)
  · skip
    show jT _ _ 18 _ _ _ _
    refine tl_aload_n rfl rfl ?_
    refine tl_iload_n rfl rfl ?_
    refine tl_v1i (c9 := 12) (c_has l _ k (by omega) (by omega) (by have a := (hI.sok k (by omega) (by omega)).1; exact ⟨by omega, by omega⟩)) rfl rfl rfl rfl rfl (Nat.le_of_ble_eq_true rfl) (fun zh1 hh1 ph1 => ?_)
    obtain ⟨qh1, ph1⟩ := ph1
    have qh1 := qh1.symm
    subst qh1
    have bh1 : zh1 = 0 ∧ m 390 (200 + 301 * k).toNat = -1 ∨ zh1 = 1 ∧ m 390 (200 + 301 * k).toNat ≠ -1 := by rw [ph1]; split <;> omega
    refine tl_if_ne (tgt := 33) rfl rfl ⟨by omega, by omega⟩ (fun c2 => ?_) (fun c2 => ?_)
    · skip
      have sb1 := hI.sok.b (k := k) (by omega) (by omega) (by omega)
      have ru := hI.run01
      refine tl_aload_n rfl rfl ?_
      refine tl_aload_n rfl rfl ?_
      refine tl_iload_n rfl rfl ?_
      show jT _ _ 36 _ _ _ _
      refine tl_iconst rfl ?_
      refine tl_v2i (c9 := 12) (r_readSlot l m (m 390) rfl hI.ok hI.sok k (by omega) (by omega) (by omega) true) rfl rfl rfl rfl rfl (Nat.le_of_ble_eq_true rfl) (fun z1 h1 p1 => ?_)
      obtain ⟨e1, g1, f1⟩ := p1
      have rb1 := rdF_b (slL (m 390) k) true (m 390)
      subst e1
      refine tl_puti (c := 12) (k9 := 45) rfl rfl rfl rfl ?_
      refine tl_aload_n rfl rfl ?_
      refine tl_geti (c := 12) (k9 := 45) rfl rfl rfl ?_
      rw [hs_s]
      refine tl_if_eq (tgt := 57) rfl rfl ⟨by omega, by omega⟩ (fun c3 => ?_) (fun c3 => ?_)
      · skip
        have e7 : (hs h1 388 45 (rdF (slL (m 390) k) true (m 390))) 390 1167 = m 390 1167 := by rw [hs_o (by decide), f1.1 390 (by decide) (by omega)]
        refine tl_aload_n rfl rfl ?_
        show jT _ _ 58 _ _ _ _
        refine tl_v0i (c9 := 12) (c_runsR l _ (by rw [e7]; exact ⟨by omega, by omega⟩)) rfl rfl rfl rfl rfl (Nat.le_of_ble_eq_true rfl) (fun zu hu pu => ?_)
        obtain ⟨qu, pu⟩ := pu
        have qu := qu.symm
        subst qu
        rw [e7] at pu
        refine tl_if_eq (tgt := 71) rfl rfl ⟨by omega, by omega⟩ (fun c4 => ?_) (fun c4 => ?_)
        · skip
          show jT _ _ 71 _ _ _ _
          -- leaf 0 at 71
          have nz : ¬ m 390 1167 = 1 := by split at pu <;> omega
          have z1 : (rdF (slL (m 390) k) true (m 390)) = 0 := by omega
          have rf9 : RF (lat m (rdF (slL (m 390) k) true (m 390))) (hs h1 388 45 (rdF (slL (m 390) k) true (m 390))) := RFlatI (fun x hx => by rw [hs_O (by omega), f1.1 x (by omega) (by omega)]) (fun q hq => by rw [hs_k (by omega), f1.2 q (by omega) (by omega) (by omega)]) hs_s
          rw [z1] at rf9
          have G1 := g1 z1
          have A := rdA sb1.1 sb1.2.2.2 z1
          have An := A.2.2.1
          have Af := A.2.2.2.2.2.2 rfl
          have Av := A.2.2.2.2.1
          have nu := hI.nund
          have ok5 := hI.ok.1
          have ok6 := hI.ok.2.1
          have B9 := bg_b sb1.1 sb1.2.2.2 z1
          refine tl_aload_n rfl rfl ?_
          refine tl_bipush rfl rfl ?_
          refine tl_v1v (c9 := 12) (r_remember l _ 12 (by rw [hs_k (by decide), f1.2 6 (by decide) (by decide) (by decide)]; exact nu.1) (by rw [hs_k (by decide), f1.2 6 (by decide) (by decide) (by decide)]; exact nu.2)) rfl rfl rfl rfl rfl (Nat.le_of_ble_eq_true rfl) (fun h2 p2 => ?_)
          have xr := rf9.rem 12
          rw [z1] at p2
          have y8a : ∀ q, q ≠ 6 → q ≠ 45 → h2 388 q = h1 388 q := fun q q1 q2 => by rw [p2, Trem_n q1, hs_k q2]
          have y3 : ∀ x, x ≠ 388 → x ≠ 391 → x ≠ 392 → h2 x = h1 x := fun x x1 x2 x3 => by rw [p2, Trem_o x1 x2 x3, hs_O x1]
          rw [← p2] at xr
          clear p2
          have y390 : h2 390 = m 390 := by rw [y3 390 (by decide) (by decide) (by decide)]; exact f1.1 390 (by decide) (by omega)
          refine tl_aload_n rfl rfl ?_
          refine tl_v0v (c9 := 12) (r_layRun l h2 (rS (slL (m 390) k)) (rNp (slL (m 390) k)) B9.2.2.1 (rG (slL (m 390) k)) (m 390) (m 390) (rNs (slL (m 390) k)).toNat Av ⟨by rw [y8a 25 (by decide) (by decide)]; exact G1.1.2.2.1.1, fun i hi => by rw [y3 403 (by decide) (by decide) (by decide), y3 404 (by decide) (by decide) (by decide)]; exact G1.1.2.2.1.2 i hi⟩ (G1.1.2.1.of (fun x x1 x2 => y3 x (by omega) (by omega) (by omega))) (by rw [y8a 38 (by decide) (by decide)]; exact G1.1.1.2.2.2.2) (fun q hq => ⟨by have := (B9.2.2.2.2.2 q hq).1; omega, (B9.2.2.2.2.2 q hq).2⟩) y390 (fun i hi => by rw [y3 413 (by decide) (by decide) (by decide)]; exact G1.2 rfl i hi) oQ_I (by have q := B9.1; unfold bgL at q; rw [List.length_append] at q; change (bgC (slL (m 390) k)).length + (bgX (slL (m 390) k)).length ≤ 64; omega)) rfl rfl rfl rfl rfl (Nat.le_of_ble_eq_true rfl) (fun h3 p3 => ?_)
          obtain ⟨k3, f3⟩ := p3
          change h3 390 = bgR (bgC (slL (m 390) k)).length (bgL (slL (m 390) k)) (rG (slL (m 390) k)) (m 390) (m 390) at k3
          refine tl_aload_n rfl rfl ?_
          show jT _ _ 82 _ _ _ _
          refine tl_getr (c := 12) (k9 := 3) (b := 390) rfl rfl rfl rfl ?_
          refine tl_sipush rfl rfl ?_
          refine tl_iconst rfl ?_
          refine tl_iast (n := 1362) rfl rfl rfl (by omega) (by omega) ?_
          rw [show Int.toNat 1167 = 1167 from rfl]
          refine tl_iconst rfl ?_
          refine tl_s1i (c_fileAt l _ 0) rfl rfl rfl (Nat.le_of_ble_eq_true rfl) (fun z4 h4 p4 => ?_)
          obtain ⟨q4, rfl⟩ := p4
          have q4 := q4.symm
          subst q4
          refine tl_istore_n rfl (Nat.le_of_ble_eq_true rfl) rfl ?_
          show jT _ _ 95 _ _ _ _
          -- leaf 0 at 95
          obtain ⟨G, eG⟩ : ∃ G : Nat → Int, G = (fun i => if i = 1167 then (1 : Int) else bgR (bgC (slL (m 390) k)).length (bgL (slL (m 390) k)) (rG (slL (m 390) k)) (m 390) (m 390) i) := ⟨_, rfl⟩
          have g5 : G 5 = m 390 5 := by rw [eG]; show (if (5 : Nat) = 1167 then (1 : Int) else _) = _; rw [if_neg (by decide), bgR_o (by omega)]
          have k4 : hs h3 390 1167 1 390 = G := by
            rw [eG]
            funext i
            show _ = if i = 1167 then (1 : Int) else bgR (bgC (slL (m 390) k)).length (bgL (slL (m 390) k)) (rG (slL (m 390) k)) (m 390) (m 390) i
            by_cases c : i = 1167
            · subst c; rw [hs_s, if_pos rfl]
            · rw [hs_k c, if_neg c, k3]
          refine r_bg_lp l (hs h3 390 1167 1) G (rNs (slL (m 390) k)) An (by rw [g5]; exact ⟨ok5, ok6⟩) (by rw [hs_o (by decide), f3.2 25 (by decide), y8a 25 (by decide) (by decide), G1.1.2.2.1.1]; omega) k _ (fun h5 p5 => ?_) _ (m 390 5).toNat _ (Nat.lt_succ_self _) ⟨⟨by rw [g5]; omega, by rw [g5]; omega⟩, ?_, fun _ _ => rfl⟩
          rotate_left
          · rw [k4, show (((m 390 5).toNat : Nat) : Int) = G 5 by rw [g5]; omega]; exact grw_0.symm
          rw [g5] at p5
          obtain ⟨w4, w5⟩ := p5
          have y8 : h5 390 1168 = rNs (slL (m 390) k) := by rw [w4, eG]; show Rbg (slL (m 390) k) (m 390) 1168 = _; rw [Rbg_f An ⟨ok5, ok6⟩ (by decide) (by omega), bgR, if_pos rfl, B9.1]; omega
          have y9 : h5 390 1169 = 0 := by rw [w4, eG]; show Rbg (slL (m 390) k) (m 390) 1169 = _; rw [Rbg_f An ⟨ok5, ok6⟩ (by decide) (by omega), bgR, if_neg (by decide), if_pos rfl]
          refine tl_aload_n rfl rfl ?_
          refine tl_getr (c := 12) (k9 := 3) (b := 390) rfl rfl rfl rfl ?_
          refine tl_sipush rfl rfl ?_
          refine tl_iald (n := 1362) rfl rfl rfl (by omega) (by omega) ?_
          rw [show Int.toNat 1168 = 1168 from rfl]
          rw [y8]
          refine tl_istore_n rfl (Nat.le_of_ble_eq_true rfl) rfl ?_
          refine tl_aload_n rfl rfl ?_
          show jT _ _ 145 _ _ _ _
          refine tl_v0v (c9 := 12) (r_closeRun l h5 (by rw [y8]; exact ⟨by omega, by omega⟩) (by rw [y9]; exact ⟨by decide, by decide⟩)) rfl rfl rfl rfl rfl (Nat.le_of_ble_eq_true rfl) (fun h6 p6 => ?_)
          refine tl_aload_n rfl rfl ?_
          refine tl_iload_n rfl rfl ?_
          refine tl_v1i (c9 := 12) (c_tell l _ _ ⟨by omega, by omega⟩ (by omega)) rfl rfl rfl rfl rfl (Nat.le_of_ble_eq_true rfl) (fun zt ht pt => ?_)
          obtain ⟨rfl, pt⟩ := pt
          refine tl_iret rfl ?_
          -- leaf 0 at 153
          refine ⟨_, rfl, ?_⟩
          rw [Dbegin]
          repeat (first | rw [if_pos (by omega)] | rw [if_neg (by omega)])
          have rp : RF (hw (Trem (lat m 0) 12) 390 (Rcl (Rbg (slL (m 390) k) (m 390)))) h6 := RF.h9 xr (fun x x1 x2 x3 => by rw [p6, hw_o x2, w5 x x2, hs_O x2]; exact f3.1 x x1 x2 (by omega) (by omega)) (fun q hq => by rw [p6, hw_o (by decide), w5 388 (by decide), hs_o (by decide)]; exact f3.2 q hq) (by rw [p6, hw_s, w4, eG]; rfl)
          change ht = Ttell _ _ at pt
          refine ⟨rfl, ?_⟩
          rw [pt]
          exact RF.tell rp _ (by omega)
        · show jT _ _ 64 _ _ _ _
          refine tl_aload_n rfl rfl ?_
          refine tl_bipush rfl rfl ?_
          refine tl_v1i (c9 := 12) (c_tell l _ _ ⟨by omega, by omega⟩ (by omega)) rfl rfl rfl rfl rfl (Nat.le_of_ble_eq_true rfl) (fun zt ht pt => ?_)
          obtain ⟨rfl, pt⟩ := pt
          refine tl_iret rfl ?_
          -- leaf 1 at 70
          have z1 : (rdF (slL (m 390) k) true (m 390)) = 0 := by omega
          have nz : m 390 1167 = 1 := by split at pu <;> omega
          refine ⟨_, rfl, ?_⟩
          rw [Dbegin]
          repeat (first | rw [if_pos (by omega)] | rw [if_neg (by omega)])
          have rf9 : RF (lat m (rdF (slL (m 390) k) true (m 390))) (hs h1 388 45 (rdF (slL (m 390) k) true (m 390))) := RFlatI (fun x hx => by rw [hs_O (by omega), f1.1 x (by omega) (by omega)]) (fun q hq => by rw [hs_k (by omega), f1.2 q (by omega) (by omega) (by omega)]) hs_s
          rw [z1] at rf9 pt
          change ht = Ttell _ _ at pt
          refine ⟨rfl, ?_⟩
          rw [pt]
          exact RF.tell rf9 _ (by decide)
      · show jT _ _ 50 _ _ _ _
        refine tl_aload_n rfl rfl ?_
        show jT _ _ 51 _ _ _ _
        refine tl_bipush rfl rfl ?_
        refine tl_v1i (c9 := 12) (c_tell l _ _ ⟨by omega, by omega⟩ (by omega)) rfl rfl rfl rfl rfl (Nat.le_of_ble_eq_true rfl) (fun zt ht pt => ?_)
        obtain ⟨rfl, pt⟩ := pt
        refine tl_iret rfl ?_
        -- leaf 2 at 56
        refine ⟨_, rfl, ?_⟩
        rw [Dbegin]
        repeat (first | rw [if_pos (by omega)] | rw [if_neg (by omega)])
        have rf9 : RF (lat m (rdF (slL (m 390) k) true (m 390))) (hs h1 388 45 (rdF (slL (m 390) k) true (m 390))) := RFlatI (fun x hx => by rw [hs_O (by omega), f1.1 x (by omega) (by omega)]) (fun q hq => by rw [hs_k (by omega), f1.2 q (by omega) (by omega) (by omega)]) hs_s
        change ht = Ttell _ _ at pt
        refine ⟨rfl, ?_⟩
        rw [pt]
        exact RF.tell rf9 _ (by decide)
    · show jT _ _ 26 _ _ _ _
      refine tl_aload_n rfl rfl ?_
      refine tl_bipush rfl rfl ?_
      refine tl_v1i (c9 := 12) (c_tell l _ _ ⟨by omega, by omega⟩ (by omega)) rfl rfl rfl rfl rfl (Nat.le_of_ble_eq_true rfl) (fun zt ht pt => ?_)
      obtain ⟨rfl, pt⟩ := pt
      refine tl_iret rfl ?_
      -- leaf 3 at 32
      refine ⟨_, rfl, ?_⟩
      rw [Dbegin]
      repeat (first | rw [if_pos (by omega)] | rw [if_neg (by omega)])
      exact ⟨rfl, by rw [pt]; exact RF.rfl'⟩
  · show jT _ _ 12 _ _ _ _
    show jT _ _ 12 _ _ _ _
    refine tl_aload_n rfl rfl ?_
    refine tl_iconst rfl ?_
    refine tl_v1i (c9 := 12) (c_tell l _ _ ⟨by omega, by omega⟩ (by omega)) rfl rfl rfl rfl rfl (Nat.le_of_ble_eq_true rfl) (fun zt ht pt => ?_)
    obtain ⟨rfl, pt⟩ := pt
    refine tl_iret rfl ?_
    -- leaf 4 at 17
    refine ⟨_, rfl, ?_⟩
    rw [Dbegin]
    repeat (first | rw [if_pos (by omega)] | rw [if_neg (by omega)])
    exact ⟨rfl, by rw [pt]; exact RF.rfl'⟩
