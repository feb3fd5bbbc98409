/-! recipe: of the reference -/
theorem RFfs {a b : jH} {f st : Int} (e : ∀ x, x < 388 ∨ (389 ≤ x ∧ x ≤ 393) ∨ 434 ≤ x → b x = a x) (g : ∀ q, q = 1 ∨ q = 6 ∨ q = 45 ∨ q = 48 ∨ q = 49 → b 388 q = a 388 q) (e8 : b 388 8 = 0) (ef : b 388 59 = f) (es : b 388 74 = st) : RF (Tfs a f st) b := by
  refine ⟨fun x hx => ?_, fun q hq => ?_⟩
  · rw [e x hx, Tfs_O (by omega)]
  · by_cases c : q = 8
    · subst c; rw [e8, Tfs_8]
    · by_cases c2 : q = 59
      · subst c2; rw [ef, Tfs_f]
      · by_cases c3 : q = 74
        · subst c3; rw [es, Tfs_s]
        · rw [g q (by omega), Tfs_k c c2 c3]
theorem ck_co {g : jH} {R : Nat → Int} {n : Nat} : ckF (coV g R) n = ckL (coL g R n) := by
  unfold ckL
  rw [coL_len]
  exact ckF_congr _ (fun i hi => (coL_gd n i hi).symm)
set_option maxRecDepth 20000 in
set_option maxHeartbeats 4000000 in
theorem r_recipe (l : Launch) (g h : jH) (t k : Int) (hI0 : IC g h t) (hk : jr k) : cI l 332 [.ref 388, .int (jI k)] h (PRF (Drecipe (Tz h) k)) := by
  have k1 := hk.1
  have k2 := hk.2
  refine cI.of rfl rfl ?_
  refine tl_aload_n rfl rfl ?_
  refine tl_iconst rfl ?_
  refine tl_puti (c := 12) (k9 := 0) rfl rfl rfl rfl ?_
  have hI := hI0.z
  change jT _ _ _ _ _ (Tz h) _
  generalize Tz h = m at hI ⊢
  have hT := hI.2.2.1
  have hT2 := hT.2.1
  have hT3 := hT.2.2.1
  have ok5 := hI.ok.o5
  refine tl_iload_n rfl rfl ?_
  refine tl_s1i (c_isSlotR l _ k ⟨by omega, by omega⟩) rfl rfl rfl (Nat.le_of_ble_eq_true rfl) (fun zs1 hs1 ps1 => ?_)
  obtain ⟨qs1, ps1⟩ := ps1
  have qs1 := qs1.symm
  subst qs1
  have bs1 : zs1 = 0 ∧ (k < 0 ∨ 2 < k) ∨ zs1 = 1 ∧ 0 ≤ k ∧ k ≤ 2 := by rw [ps1]; split <;> omega
  refine tl_if_ne (tgt := 18) rfl rfl ⟨by omega, by omega⟩ (fun c1 => ?_) (fun c1 => ?_)
  · skip
    show jT _ _ 18 _ _ _ _
    refine tl_aload_n rfl rfl ?_
    refine tl_iconst rfl ?_
    refine tl_puti (c := 12) (k9 := 56) rfl rfl rfl rfl ?_
    refine tl_aload_n rfl rfl ?_
    refine tl_iconst rfl ?_
    refine tl_putz (c := 12) (k9 := 60) rfl rfl (by omega) rfl rfl ?_
    refine tl_aload_n rfl rfl ?_
    show jT _ _ 29 _ _ _ _
    refine tl_iconst rfl ?_
    refine tl_puti (c := 12) (k9 := 59) rfl rfl rfl rfl ?_
    refine tl_aload_n rfl rfl ?_
    refine tl_iconst rfl ?_
    refine tl_puti (c := 12) (k9 := 74) rfl rfl rfl rfl ?_
    refine tl_aload_n rfl rfl ?_
    refine tl_iconst rfl ?_
    show jT _ _ 40 _ _ _ _
    refine tl_puti (c := 12) (k9 := 62) rfl rfl rfl rfl ?_
    refine tl_aload_n rfl rfl ?_
    refine tl_iconst rfl ?_
    refine tl_puti (c := 12) (k9 := 69) rfl rfl rfl rfl ?_
    refine tl_aload_n rfl rfl ?_
    refine tl_v0v (c9 := 12) (r_next l (hs (hs (hs (hs (hs (hs m 388 56 0) 388 60 0) 388 59 (-1)) 388 74 (-1)) 388 62 0) 388 69 0) (m 393) (m 388 8).toNat ⟨by rw [hs_k (by decide), hs_k (by decide), hs_k (by decide), hs_k (by decide), hs_k (by decide), hs_k (by decide)]; omega, fun i hi => by rw [hs_o (by decide), hs_o (by decide), hs_o (by decide), hs_o (by decide), hs_o (by decide), hs_o (by decide)], by omega, fun i hi => (hT.2.2.2 i (by omega)).2⟩ 0 (Nat.zero_le _) (by rw [hs_k (by decide), hs_k (by decide), hs_k (by decide), hs_k (by decide), hs_k (by decide), hs_s]; rfl)) rfl rfl rfl rfl rfl (Nat.le_of_ble_eq_true rfl) (fun h1 p1 => ?_)
    obtain ⟨t1, g1⟩ := p1
    have rt1 : RTx h1 (m 393) (m 388 8).toNat false (skw (m 393) (m 388 8).toNat 0) := ⟨t1, by rw [g1.2 60 (by omega), hs_k (by decide), hs_k (by decide), hs_k (by decide), hs_k (by decide), hs_s]; rfl, fun q => absurd q (by decide), fun _ => by rw [g1.2 59 (by omega), hs_k (by decide), hs_k (by decide), hs_k (by decide), hs_s]⟩
    have e62 : h1 388 62 = 0 := by rw [g1.2 62 (by omega), hs_k (by decide), hs_s]
    have e69 : h1 388 69 = 0 := by rw [g1.2 69 (by omega), hs_s]
    have e74 : h1 388 74 = -1 := by rw [g1.2 74 (by omega), hs_k (by decide), hs_k (by decide), hs_s]
    have X1 : ∀ x, x ≠ 388 → h1 x = m x := fun x hx => by rw [g1.1 x hx, hs_O hx, hs_O hx, hs_O hx, hs_O hx, hs_O hx, hs_O hx]
    have Q1 : ∀ q, q < 55 ∨ 74 < q → h1 388 q = m 388 q := fun q hq => by rw [g1.2 q (by omega), hs_k (by omega), hs_k (by omega), hs_k (by omega), hs_k (by omega), hs_k (by omega), hs_k (by omega)]
    refine tl_aload_n rfl rfl ?_
    show jT _ _ 53 _ _ _ _
    refine tl_v0v (c9 := 12) (r_readRecipe l h1 (m 393) (m 388 8).toNat rt1 e62 e69) rfl rfl rfl rfl rfl (Nat.le_of_ble_eq_true rfl) (fun h2 p2 => ?_)
    obtain ⟨pb, pg, fl⟩ := p2
    change (rcX m).1.1 = true → RTx h2 _ _ true (rcX m).2.1.1 at pb
    change (rcX m).1.1 = false → _ at pg
    have X2 : ∀ x, x ≠ 388 → (x < 420 ∨ 426 < x) → h2 x = m x := fun x x1 x2 => by rw [fl.1 x x1 x2]; exact X1 x x1
    have Q2 : ∀ q, q < 55 ∨ 74 < q → h2 388 q = m 388 q := fun q hq => by rw [fl.2 q (by omega) (by omega) (by omega) (by omega)]; exact Q1 q hq
    have f74 : h2 388 74 = -1 := by rw [fl.2 74 (by omega) (by decide) (by decide) (by decide)]; exact e74
    have e60 : h2 388 60 = zb (rcX m).1.1 := by
      cases e : (rcX m).1.1 with
      | true => exact (pb e).2.1
      | false => obtain ⟨f, ns, d, T, SD, eX, cr⟩ := pg e; exact cr.1.2.1
    have bz := zb_b (rcX m).1.1
    refine tl_aload_n rfl rfl ?_
    refine tl_iconst rfl ?_
    refine tl_puti (c := 12) (k9 := 8) rfl rfl rfl rfl ?_
    refine tl_aload_n rfl rfl ?_
    refine tl_geti (c := 12) (k9 := 60) rfl rfl rfl ?_
    rw [hs_k (by decide), e60]
    refine tl_if_eq (tgt := 75) rfl rfl ⟨by omega, by omega⟩ (fun c2 => ?_) (fun c2 => ?_)
    · skip
      have xb := zb0 c2
      obtain ⟨f, ns, d, T, SD, eX, cr⟩ := pg xb
      have wf9 := pX_wf (show (m 388 8).toNat ≤ 400 by omega) eX
      obtain ⟨d0, D, S, wf⟩ := wf9
      subst d0
      obtain ⟨rt, c62, c72, _, n24, tbl, _, ov, sd, bd⟩ := cr
      have fN := rt.N9
      have G : ∀ x, x ≠ 388 → (hs (hs (hs h2 388 8 0) 388 25 0) 388 73 0) x = h2 x := fun x hx => by rw [hs_O hx, hs_O hx, hs_O hx]
      have ct : RTb (hs (hs (hs h2 388 8 0) 388 25 0) 388 73 0) T SD ns := ⟨by rw [hs_k (by decide), hs_k (by decide), hs_k (by decide)]; exact c62, n24, fun i hi => by rw [G 420 (by decide), G 421 (by decide), G 422 (by decide), G 423 (by decide)]; exact tbl i hi, fun i hi q => by rw [G 424 (by decide)]; exact ov i hi q (fun e he => absurd he (Nat.not_lt_zero _)), fun i hi => by rw [G 425 (by decide)]; exact sd.2 i hi, by omega⟩
      have e5 : (hs (hs (hs h2 388 8 0) 388 25 0) 388 73 0) 390 5 = m 390 5 := by rw [G 390 (by decide), X2 390 (by decide) (by omega)]
      have f59 : h2 388 59 = -1 := rt.2.2.2 rfl
      have eY : rcY m = rX T SD (m 390 5) ns := by
        have eX2 : rcX m = ((false, false), (f, ns, 0), T, SD) := eX
        unfold rcY; rw [eX2]
      show jT _ _ 75 _ _ _ _
      refine tl_aload_n rfl rfl ?_
      refine tl_iconst rfl ?_
      refine tl_puti (c := 12) (k9 := 25) rfl rfl rfl rfl ?_
      refine tl_aload_n rfl rfl ?_
      refine tl_iconst rfl ?_
      refine tl_puti (c := 12) (k9 := 73) rfl rfl rfl rfl ?_
      refine tl_aload_n rfl rfl ?_
      show jT _ _ 86 _ _ _ _
      refine tl_v0v (c9 := 12) (r_runSteps l (hs (hs (hs h2 388 8 0) 388 25 0) 388 73 0) T SD ns (m 390) D S wf ct e5 ok5.1 ok5.2 (by rw [hs_k (by decide), hs_s]) hs_s (by rw [hs_k (by decide), hs_k (by decide), hs_k (by decide)]; exact f74)) rfl rfl rfl rfl rfl (Nat.le_of_ble_eq_true rfl) (fun h4 p4 => ?_)
      have ri := (rX_i (R := m 390) (SD := SD) wf).1
      generalize rX T SD (m 390 5) ns = Y at p4 ri eY
      obtain ⟨w73, hz0, hzn, f4⟩ := p4
      obtain ⟨ri0, n64, ogs, w1, w2⟩ := ri
      have kY := ri0.1
      have X4 : ∀ x, x ≠ 388 → (x < 403 ∨ (404 < x ∧ x < 420) ∨ 427 < x) → h4 x = m x := fun x x1 x2 => by rw [f4.1 x x1 (by omega) (by omega) (by omega) (by omega), G x x1]; exact X2 x x1 (by omega)
      have Q4 : ∀ q, q ≠ 8 → q ≠ 25 → (q < 55 ∨ 74 < q) → h4 388 q = m 388 q := fun q a b c => by rw [f4.2 q b (by omega) (by omega) (by omega), hs_k (by omega), hs_k (by omega), hs_k (by omega)]; exact Q2 q c
      have e48 : h4 388 8 = 0 := by rw [f4.2 8 (by decide) (by decide) (by decide) (by decide), hs_k (by decide), hs_k (by decide), hs_s]
      have e459 : h4 388 59 = -1 := by rw [f4.2 59 (by decide) (by decide) (by decide) (by decide), hs_k (by decide), hs_k (by decide), hs_k (by decide)]; exact f59
      refine tl_aload_n rfl rfl ?_
      refine tl_geti (c := 12) (k9 := 73) rfl rfl rfl ?_
      rw [w73]
      refine tl_if_eq (tgt := 105) rfl rfl ⟨by omega, by omega⟩ (fun c3 => ?_) (fun c3 => ?_)
      · skip
        obtain ⟨og, s74⟩ := hz0 (by omega)
        change OGR h4 Y.2.1.1 Y.2.1.2 at og
        change Y.2.1.2 ≤ 64 at n64
        change OGs Y.2.1.1 (m 390) Y.2.1.2 at ogs
        have ogv := ogs.v9 n64 ok5.2
        have e390 : h4 390 = m 390 := X4 390 (by decide) (by omega)
        have pkb := (pk_b (g := Y.2.1.1) (n := Y.2.1.2) (os := m 390 5) (oc := ckO (m 390)) (nc := ckL (coL Y.2.1.1 (m 390) Y.2.1.2)) ogv ok5 ckO_b ckL_b).2.2.2.2
        refine tl_aload_n rfl rfl ?_
        refine tl_v0v (c9 := 12) (r_layComes l h4 Y.2.1.1 Y.2.1.2 n64 og (m 390) e390 hI.ok ogs) rfl rfl rfl rfl rfl (Nat.le_of_ble_eq_true rfl) (fun h5 p5 => ?_)
        obtain ⟨cm, f5⟩ := p5
        have e5390 : h5 390 = m 390 := by rw [f5 390 (by decide)]; exact e390
        have og5 : OGR h5 Y.2.1.1 Y.2.1.2 := ⟨by rw [f5 388 (by decide)]; exact og.1, fun i hi => by rw [f5 403 (by decide), f5 404 (by decide)]; exact og.2 i hi⟩
        refine tl_aload_n rfl rfl ?_
        show jT _ _ 110 _ _ _ _
        refine tl_aload_n rfl rfl ?_
        refine tl_iconst rfl ?_
        refine tl_v1i (c9 := 12) (c_sizeOf l _ 0 (by decide) (by decide)) rfl rfl rfl rfl rfl (Nat.le_of_ble_eq_true rfl) (fun z6 h6 p6 => ?_)
        obtain ⟨q6, rfl⟩ := p6
        have q6 := q6.symm
        subst q6
        rw [show (5 + 65 * 0 : Int).toNat = 5 from rfl, e5390]
        refine tl_aload_n rfl rfl ?_
        refine tl_iconst rfl ?_
        refine tl_v1i (c9 := 12) (r_fckO l h5 (m 390) e5390 hI.ok) rfl rfl rfl rfl rfl (Nat.le_of_ble_eq_true rfl) (fun zc hc pc => ?_)
        obtain ⟨qc, ec⟩ := pc
        have qc := qc.symm
        subst qc
        subst ec
        refine tl_aload_n rfl rfl ?_
        show jT _ _ 121 _ _ _ _
        refine tl_geti (c := 12) (k9 := 25) rfl rfl rfl ?_
        rw [og5.1]
        refine tl_aload_n rfl rfl ?_
        refine tl_v0i (c9 := 12) (r_comesCheck l h5 (coV Y.2.1.1 (m 390)) Y.2.1.2 (by omega) n64 og5.1 cm (coV_b ogs)) rfl rfl rfl rfl rfl (Nat.le_of_ble_eq_true rfl) (fun zd hd pd => ?_)
        obtain ⟨qd, ed⟩ := pd
        have qd := qd.symm
        subst qd
        rw [ck_co] at ed
        subst ed
        refine tl_v4v (c9 := 12) (r_pack l h5 Y.2.1.1 Y.2.1.2 og5 ogv (m 390 5) (ckO (m 390)) (ckL (coL Y.2.1.1 (m 390) Y.2.1.2)) ok5 ckO_b ckL_b) rfl rfl rfl rfl rfl (Nat.le_of_ble_eq_true rfl) (fun h6 p6 => ?_)
        obtain ⟨kL, f6⟩ := p6
        have rf6 : RF (Tfs m (-1) (-1)) h6 := RFfs (fun x hx => by rw [f6.1 x (by omega) (by omega) (by omega), f5 x (by omega)]; exact X4 x (by omega) (by omega)) (fun q hq => by rw [f6.2 q (by omega) (by omega), f5 388 (by decide)]; exact Q4 q (by omega) (by omega) (by omega)) (by rw [f6.2 8 (by decide) (by decide), f5 388 (by decide)]; exact e48) (by rw [f6.2 59 (by decide) (by decide), f5 388 (by decide)]; exact e459) (by rw [f6.2 74 (by decide) (by decide), f5 388 (by decide)]; exact s74)
        have nu := hI.nund
        have nu6 : 0 ≤ h6 388 6 ∧ h6 388 6 ≤ 16 := by rw [rf6.2 6 (by omega), Tfs_k (by decide) (by decide) (by decide)]; exact nu
        refine tl_aload_n rfl rfl ?_
        refine tl_iconst rfl ?_
        refine tl_v1v (c9 := 12) (r_remember l h6 3 nu6.1 nu6.2) rfl rfl rfl rfl rfl (Nat.le_of_ble_eq_true rfl) (fun h7 p7 => ?_)
        subst p7
        have kL2 : ML (Trem h6 3) (PKL Y.2.1.1 Y.2.1.2 (m 390 5) (ckO (m 390)) (ckL (coL Y.2.1.1 (m 390) Y.2.1.2))) := ⟨by rw [Trem_n (by decide)]; exact kL.1, fun i hi => by rw [Trem_o (by decide) (by decide) (by decide)]; exact kL.2 i hi⟩
        show jT _ _ 136 _ _ _ _
        refine tl_aload_n rfl rfl ?_
        refine tl_aload_n rfl rfl ?_
        refine tl_iload_n rfl rfl ?_
        refine tl_v1i (c9 := 12) (r_putMade l (Trem h6 3) k (by omega) (by omega) _ kL2 (by omega)) rfl rfl rfl rfl rfl (Nat.le_of_ble_eq_true rfl) (fun z8 h8 p8 => ?_)
        obtain ⟨rfl, p8⟩ := p8
        subst p8
        refine tl_v1i (c9 := 12) (c_tell l _ _ ⟨by omega, by omega⟩ (by omega)) rfl rfl rfl rfl rfl (Nat.le_of_ble_eq_true rfl) (fun zt ht pt => ?_)
        obtain ⟨rfl, pt⟩ := pt
        refine tl_iret rfl ?_
        -- leaf 0 at 145
        refine ⟨_, rfl, ?_⟩
        have eL : rcL m = (PKL Y.2.1.1 Y.2.1.2 (m 390 5) (ckO (m 390)) (ckL (coL Y.2.1.1 (m 390) Y.2.1.2))) := by unfold rcL; rw [eY]
        rw [Drecipe, if_neg (by omega), if_neg (by rw [xb]; decide), eY, eL, if_neg (show ¬ Y.2.2 ≠ 0 by omega)]
        change ht = Ttell _ _ at pt
        refine ⟨rfl, ?_⟩
        rw [pt]
        exact RF.tell ((rf6.rem 3).slot k _) _ (by omega)
      · show jT _ _ 96 _ _ _ _
        refine tl_aload_n rfl rfl ?_
        show jT _ _ 97 _ _ _ _
        refine tl_aload_n rfl rfl ?_
        refine tl_geti (c := 12) (k9 := 73) rfl rfl rfl ?_
        rw [w73]
        refine tl_v1i (c9 := 12) (c_tell l _ _ ⟨by omega, by omega⟩ (by omega)) rfl rfl rfl rfl rfl (Nat.le_of_ble_eq_true rfl) (fun zt ht pt => ?_)
        obtain ⟨rfl, pt⟩ := pt
        refine tl_iret rfl ?_
        -- leaf 1 at 104
        refine ⟨_, rfl, ?_⟩
        rw [Drecipe, if_neg (by omega), if_neg (by rw [xb]; decide), eY, if_pos (show Y.2.2 ≠ 0 by omega)]
        have rf9 : RF (Tfs m (-1) (Y.1.1.1 : Int)) h4 := RFfs (fun x hx => X4 x (by omega) (by omega)) (fun q hq => Q4 q (by omega) (by omega) (by omega)) e48 e459 (hzn (by omega))
        change ht = Ttell _ _ at pt
        refine ⟨rfl, ?_⟩
        rw [pt]
        exact RF.tell rf9 _ (by omega)
    · show jT _ _ 68 _ _ _ _
      have xb := zb1' c2
      refine tl_aload_n rfl rfl ?_
      refine tl_bipush rfl rfl ?_
      refine tl_v1i (c9 := 12) (c_tell l _ _ ⟨by omega, by omega⟩ (by omega)) rfl rfl rfl rfl rfl (Nat.le_of_ble_eq_true rfl) (fun zt ht pt => ?_)
      obtain ⟨rfl, pt⟩ := pt
      show jT _ _ 74 _ _ _ _
      refine tl_iret rfl ?_
      -- leaf 2 at 74
      refine ⟨_, rfl, ?_⟩
      rw [Drecipe, if_neg (by omega), if_pos xb]
      have rf9 : RF (Tfs m ((rcX m).2.1.1 : Int) (-1)) (hs h2 388 8 0) := RFfs (fun x hx => by rw [hs_O (by omega)]; exact X2 x (by omega) (by omega)) (fun q hq => by rw [hs_k (by omega)]; exact Q2 q (by omega)) hs_s (by rw [hs_k (by decide)]; exact (pb xb).2.2.1 rfl) (by rw [hs_k (by decide)]; exact f74)
      change ht = Ttell _ _ at pt
      refine ⟨rfl, ?_⟩
      rw [pt]
      exact RF.tell rf9 _ (by decide)
  · show jT _ _ 12 _ _ _ _
    refine tl_aload_n rfl rfl ?_
    refine tl_iconst rfl ?_
    refine tl_v1i (c9 := 12) (c_tell l _ _ ⟨by omega, by omega⟩ (by omega)) rfl rfl rfl rfl rfl (Nat.le_of_ble_eq_true rfl) (fun zt ht pt => ?_)
    obtain ⟨rfl, pt⟩ := pt
    refine tl_iret rfl ?_
    -- leaf 3 at 17
    refine ⟨_, rfl, ?_⟩
    rw [Drecipe, if_pos (by omega)]
    exact ⟨rfl, by rw [pt]; exact RF.rfl'⟩
