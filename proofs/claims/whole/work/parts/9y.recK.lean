/-! recipe: of the class -/
theorem fi9_f {B : Nat → Int} {N f d : Nat} (h : f ≤ N) : (fi9 B N f d).2 ≤ N := by
  unfold fi9
  split
  · exact (nx_b h).2.1
  · split <;> exact h
theorem stq_N {B : Nat → Int} {N f d k : Nat} (h : f ≤ N) : (stq B N f d k).2 ≤ N := by
  unfold stq
  split
  · exact stp_N h
  · exact h
theorem pz_f {B : Nat → Int} {N : Nat} {s : pS} (h : s.2.1.1 ≤ N) : (pz B N s).2.1.1 ≤ N := by
  unfold pz
  have sN := stq_N (B := B) (d := s.2.1.2.2) (k := s.2.1.2.1) h
  split
  · exact h
  · split
    · exact sN
    · split
      · exact sN
      · exact fi9_f (cb9_b _ _ _ sN).1
theorem pit_f {B : Nat → Int} {N : Nat} : ∀ (m : Nat) (s : pS), s.2.1.1 ≤ N → (pit B N m s).2.1.1 ≤ N := by
  intro m
  induction m with
  | zero => intro s h; exact h
  | succ m ih => intro s h; rw [pit]; exact ih _ (pz_f h)
theorem pX_f {B : Nat → Int} {N : Nat} : (pX B N).2.1.1 ≤ N := pit_f 25 _ (skw_b (Nat.zero_le _)).2
def Tfs (s : jH) (f st : Int) : jH := hs (hs (hs s 388 59 f) 388 74 st) 388 8 0
theorem Tfs_O {s : jH} {f st : Int} {x : Nat} (h : x ≠ 388) : Tfs s f st x = s x := by rw [Tfs, hs_O h, hs_O h, hs_O h]
theorem Tfs_k {s : jH} {f st : Int} {q : Nat} (h1 : q ≠ 8) (h2 : q ≠ 59) (h3 : q ≠ 74) : Tfs s f st 388 q = s 388 q := by rw [Tfs, hs_k h1, hs_k h3, hs_k h2]
theorem Tfs_8 {s : jH} {f st : Int} : Tfs s f st 388 8 = 0 := hs_s
theorem Tfs_f {s : jH} {f st : Int} : Tfs s f st 388 59 = f := by rw [Tfs, hs_k (by decide), hs_k (by decide), hs_s]
theorem Tfs_s {s : jH} {f st : Int} : Tfs s f st 388 74 = st := by rw [Tfs, hs_k (by decide), hs_s]
theorem Ag.fs {s s' : jH} (h : Ag s s') (f st : Int) : Ag (Tfs s f st) (Tfs s' f st) := ((h.s1 rfl).s1 rfl).s1 rfl
def rcX (s : jH) : pS := pX (s 393) (s 388 8).toNat
def rcY (s : jH) : rST := rX (rcX s).2.2.1 (rcX s).2.2.2 (s 390 5) (rcX s).2.1.2.1
def rcL (s : jH) : List Int := PKL (rcY s).2.1.1 (rcY s).2.1.2 (s 390 5) (ckO (s 390)) (ckL (coL (rcY s).2.1.1 (s 390) (rcY s).2.1.2))
def Drecipe (s : jH) (k : Int) : Int × jH := if k < 0 ∨ 2 < k then dT s (-1) else if (rcX s).1.1 = true then dT (Tfs s ((rcX s).2.1.1 : Int) (-1)) (-6) else if (rcY s).2.2 ≠ 0 then dT (Tfs s (-1) ((rcY s).1.1.1 : Int)) (rcY s).2.2 else dT (Tslot (Trem (Tfs s (-1) (-1)) 3) k (rcL s)) ((rcL s).length : Int)
theorem Ag.recipe {s s' : jH} (h : Ag s s') (k : Int) : AgD (Drecipe s k) (Drecipe s' k) := by
  have e1 : rcX s = rcX s' := by unfold rcX; rw [h 393 (by decide), h 388 (by decide)]
  have e2 : rcY s = rcY s' := by unfold rcY; rw [e1, h 390 (by decide)]
  have e3 : rcL s = rcL s' := by unfold rcL; rw [e2, h 390 (by decide)]
  unfold Drecipe
  rw [e1, e2, e3]
  split
  · exact h.d _
  · split
    · exact (h.fs _ _).d _
    · split
      · exact (h.fs _ _).d _
      · exact (((h.fs _ _).rem 3).slot _ _).d _
theorem IC.rcp {h h' s : jH} {t f st : Int} (hI : IC h s t) (jf : jr f) (js : jr st) (e : ∀ x, x < 313 → x ≠ 309 → h' x = h x) (e6 : h' 356 = h 356) (e9 : h' 309 1 = 0) (ef : h' 362 0 = f) (es : h' 362 1 = st) : IC h' (Tfs s f st) t := by
  obtain ⟨hR, hU, hT, m1, m2, m3, m4, m5, m6, m7, m8, m9, m10, m11, _⟩ := hI
  have e0 : h' 0 = h 0 := e 0 (by decide) (by decide)
  refine ⟨?_, ?_, ?_, ?_⟩
  · rw [Tfs_O (by decide)]
    exact hR.keep (fun x h1 h2 => e x (by omega) (by omega))
  · have hU2 := IC.undo_same (h' := h') hU (by rw [e0]) (by rw [e0]) (e 308 (by decide) (by decide)) (fun x h1 h2 => e x (by omega) (by omega))
    rw [RU, Tfs_k (by decide) (by decide) (by decide), Tfs_O (by decide), Tfs_O (by decide)]
    exact hU2
  · exact ⟨by rw [e9, Tfs_8], by rw [Tfs_8]; decide, by rw [Tfs_8]; decide, fun i hi => by rw [Tfs_8] at hi; omega⟩
  · rw [RN, e0, e6, e 311 (by decide) (by decide), e 312 (by decide) (by decide), Tfs_O (by decide), Tfs_O (by decide), Tfs_k (by decide) (by decide) (by decide), Tfs_k (by decide) (by decide) (by decide), Tfs_k (by decide) (by decide) (by decide), Tfs_k (by decide) (by decide) (by decide), Tfs_f, Tfs_s, ef, es]
    exact ⟨m1, m2, m3, m4, m5, m6, m7, m8, m9, m10, m11, rfl, jf, rfl, js⟩
theorem OGs.v9 {g : jH} {R : Nat → Int} {n : Nat} (h : OGs g R n) (n64 : n ≤ 64) (r5 : R 5 ≤ 64) : OGv g n := ⟨n64, fun i hi => by
  have a := h i hi
  exact ⟨by omega, a.2⟩⟩
theorem ckL_b {L : List Int} : 0 ≤ ckL L ∧ ckL L < 16384 := by have := ckF_b (fun i => L.getD i 0) L.length; unfold ckL; omega
set_option maxRecDepth 20000 in
set_option maxHeartbeats 4000000 in
theorem k_recipe (l : Launch) (h s : jH) (t k : Int) (hI : IC h s t) (hk : jr k) : cI l 144 [.ref 0, .int (jI k)] h (PK h t (Drecipe s k)) := by
  have k1 := hk.1
  have k2 := hk.2
  have hT := hI.2.2.1
  have hT2 := hT.2.1
  have hT3 := hT.2.2.1
  have ok5 := hI.ok.o5
  refine cI.of rfl rfl ?_
  refine tl_iload_n rfl rfl ?_
  refine tl_s1i (k_isSlot l _ k ⟨by omega, by omega⟩) rfl rfl rfl (Nat.le_of_ble_eq_true rfl) (fun zs1 hs1 ps1 => ?_)
  obtain ⟨qs1, ps1⟩ := ps1
  have qs1 := qs1.symm
  subst qs1
  have bs1 : zs1 = 0 ∧ (k < 0 ∨ 2 < k) ∨ zs1 = 1 ∧ 0 ≤ k ∧ k ≤ 2 := by rw [ps1]; split <;> omega
  refine tl_if_ne (tgt := 13) rfl rfl ⟨by omega, by omega⟩ (fun c1 => ?_) (fun c1 => ?_)
  · skip
    refine tl_aload_n rfl rfl ?_
    refine tl_getr (c := 11) (k9 := 15) (b := 362) rfl rfl rfl rfl ?_
    refine tl_aload_n rfl rfl ?_
    show jT _ _ 18 _ _ _ _
    refine tl_getr (c := 11) (k9 := 5) (b := 309) rfl rfl rfl rfl ?_
    refine tl_v1i (c9 := 7) (k_readAll l h (s 393) (s 388 8).toNat (by rw [hT.1]; omega) (fun i hi => (hT.2.2.2 i (by omega)).1) (by omega) (fun i hi => (hT.2.2.2 i (by omega)).2)) rfl rfl rfl rfl rfl (Nat.le_of_ble_eq_true rfl) (fun z1 h1 p1 => ?_)
    obtain ⟨pb, pg, p1s, fr1⟩ := p1
    change (rcX s).1.1 = true → z1 = 0 ∧ h1 362 0 = ((rcX s).2.1.1 : Int) at pb
    change (rcX s).1.1 = false → _ at pg
    have xf : (rcX s).2.1.1 ≤ (s 388 8).toNat := pX_f
    have zc : (z1 = 0 ∧ (rcX s).1.1 = true) ∨ (z1 = 1 ∧ (rcX s).1.1 = false) := by cases e : (rcX s).1.1 with | true => exact Or.inl ⟨(pb e).1, rfl⟩ | false => exact Or.inr ⟨(pg e).1, rfl⟩
    refine tl_istore_n rfl (Nat.le_of_ble_eq_true rfl) rfl ?_
    refine tl_aload_n rfl rfl ?_
    refine tl_getr (c := 11) (k9 := 5) (b := 309) rfl rfl rfl rfl ?_
    refine tl_iconst rfl ?_
    refine tl_puti (c := 8) (k9 := 1) rfl rfl rfl rfl ?_
    show jT _ _ 33 _ _ _ _
    refine tl_iload_n rfl rfl ?_
    refine tl_if_ne (tgt := 44) rfl rfl ⟨by omega, by omega⟩ (fun c2 => ?_) (fun c2 => ?_)
    · skip
      have xg : (rcX s).1.1 = false := by rcases zc with q | q; exact absurd q.1 (by omega); exact q.2
      obtain ⟨_, p10, f, ns, d, T, SD, eX, h0, cr, eh⟩ := pg xg
      have wf9 := pX_wf (show (s 388 8).toNat ≤ 400 by omega) eX
      obtain ⟨d0, D, S, wf⟩ := wf9
      subst d0
      obtain ⟨tk, c6, c15, _, n24, tbl, _, ov, rl, bd⟩ := cr
      have fN := tk.2.2.2
      have g1 : ∀ x, x ≠ 362 → x ≠ 309 → (hs h1 309 1 0) x = h0 x := fun x x1 x2 => by rw [hs_O x2, eh, hs_O x1]
      have ct : CTb (hs h1 309 1 0) T SD ns := ⟨by rw [hs_o (by decide), eh, hs_k (by decide)]; exact c6, n24, fun i hi => by rw [g1 365 (by decide) (by decide), g1 366 (by decide) (by decide), g1 367 (by decide) (by decide), g1 368 (by decide) (by decide), g1 369 (by decide) (by decide)]; have a := tbl i hi; exact ⟨a.1, a.2.1, a.2.2.1, a.2.2.2, fun q => ov i hi q (fun e he => absurd he (Nat.not_lt_zero _))⟩, rl.of (g1 370 (by decide) (by decide)) (g1 371 (by decide) (by decide)), by omega⟩
      have e5 : (hs h1 309 1 0) 2 1 = s 390 5 := by rw [hs_o (by decide), fr1 2 (by omega)]; exact hI.1.o5
      have eY : rcY s = rX T SD (s 390 5) ns := by
        have eX2 : rcX s = ((false, false), (f, ns, 0), T, SD) := eX
        unfold rcY; rw [eX2]
      refine tl_aload_n rfl rfl ?_
      refine tl_getr (c := 11) (k9 := 15) (b := 362) rfl rfl rfl rfl ?_
      refine tl_aload_n rfl rfl ?_
      refine tl_getr (c := 11) (k9 := 0) (b := 1) rfl rfl rfl rfl ?_
      refine tl_getr (c := 9) (k9 := 0) (b := 2) rfl rfl rfl rfl ?_
      show jT _ _ 55 _ _ _ _
      refine tl_aload_n rfl rfl ?_
      refine tl_getr (c := 11) (k9 := 18) (b := 383) rfl rfl rfl rfl ?_
      refine tl_v2i (c9 := 7) (k_run l (hs h1 309 1 0) T SD ns (s 390) D S wf ct e5 ok5.1 ok5.2) rfl rfl rfl rfl rfl (Nat.le_of_ble_eq_true rfl) (fun z2 h2 p2 => ?_)
      have ri := (rX_i (R := s 390) (SD := SD) wf).1
      generalize rX T SD (s 390 5) ns = Y at p2 ri eY
      obtain ⟨ez2, hz0, hzn⟩ := p2
      obtain ⟨ri0, n64, ogs, w1, w2⟩ := ri
      have zr2 : -5 ≤ z2 ∧ z2 ≤ 0 := by rw [ez2]; exact ⟨w1, w2⟩
      refine tl_istore_n rfl (Nat.le_of_ble_eq_true rfl) rfl ?_
      refine tl_iload_n rfl rfl ?_
      refine tl_if_eq (tgt := 73) rfl rfl ⟨by omega, by omega⟩ (fun c3 => ?_) (fun c3 => ?_)
      · skip
        obtain ⟨og, f3⟩ := hz0 (by omega)
        change OG h2 383 384 385 Y.2.1.1 Y.2.1.2 at og
        change Y.2.1.2 ≤ 64 at n64
        change OGs Y.2.1.1 (s 390) Y.2.1.2 at ogs
        have f3x : ∀ x, x ≠ 362 → x ≠ 372 → x ≠ 373 → (x < 383 ∨ 385 < x) → h2 x = hs h1 309 1 0 x := fun x a b c d9 => f3.1 x a b c (by omega) (by omega) (by omega)
        have hR2 : RS h2 1 (s 390) := hI.1.of (fun x x1 x2 => by rw [f3x x (by omega) (by omega) (by omega) (by omega), hs_O (by omega)]; exact fr1 x (by omega))
        have ogv := ogs.v9 n64 ok5.2
        refine tl_aload_n rfl rfl ?_
        show jT _ _ 74 _ _ _ _
        refine tl_getr (c := 11) (k9 := 18) (b := 383) rfl rfl rfl rfl ?_
        refine tl_aload_n rfl rfl ?_
        refine tl_getr (c := 11) (k9 := 0) (b := 1) rfl rfl rfl rfl ?_
        refine tl_getr (c := 9) (k9 := 0) (b := 2) rfl rfl rfl rfl ?_
        refine tl_aload_n rfl rfl ?_
        refine tl_getr (c := 11) (k9 := 19) (b := 386) rfl rfl rfl rfl ?_
        refine tl_v2v (c9 := 3) (k_comeOut l Or383 SPS (by decide) h2 Y.2.1.1 (s 390) hR2 Y.2.1.2 og ogv ogs) rfl rfl rfl rfl rfl (Nat.le_of_ble_eq_true rfl) (fun h3 p3 => ?_)
        obtain ⟨rl3, fc3⟩ := p3
        have hR3 : RS h3 1 (s 390) := hR2.of (fun x x1 x2 => fc3 x (by omega) (by omega))
        have og3 : OG h3 383 384 385 Y.2.1.1 Y.2.1.2 := og.of (fc3 383 (by decide) (by decide)) (fc3 384 (by decide) (by decide)) (fc3 385 (by decide) (by decide))
        have pkb := (pk_b (g := Y.2.1.1) (n := Y.2.1.2) (os := s 390 5) (oc := ckO (s 390)) (nc := ckL (coL Y.2.1.1 (s 390) Y.2.1.2)) ogv ok5 ckO_b ckL_b).2.2.2.2
        show jT _ _ 91 _ _ _ _
        refine tl_aload_n rfl rfl ?_
        refine tl_getr (c := 11) (k9 := 12) (b := 328) rfl rfl rfl rfl ?_
        refine tl_aload_n rfl rfl ?_
        refine tl_getr (c := 11) (k9 := 18) (b := 383) rfl rfl rfl rfl ?_
        refine tl_aload_n rfl rfl ?_
        refine tl_getr (c := 11) (k9 := 0) (b := 1) rfl rfl rfl rfl ?_
        refine tl_getr (c := 9) (k9 := 0) (b := 2) rfl rfl rfl rfl ?_
        show jT _ _ 106 _ _ _ _
        refine tl_geti (c := 8) (k9 := 1) rfl rfl rfl ?_
        rw [hR3.o5]
        refine tl_aload_n rfl rfl ?_
        refine tl_getr (c := 11) (k9 := 0) (b := 1) rfl rfl rfl rfl ?_
        refine tl_getr (c := 9) (k9 := 0) (b := 2) rfl rfl rfl rfl ?_
        refine tl_v0i (c9 := 8) (c_Row_checkAll l (RSf_S 0 (by decide)) h3 (by show 0 ≤ h3 2 1; rw [hR3.o5]; omega) (by show h3 2 1 ≤ _; rw [hR3.o5]; omega) (fun i hi => by have hi2 : (i : Int) < h3 2 1 := hi; rw [hR3.o5] at hi2; have q := (hR3.1 0 (by decide)).2.2.2 i hi2; exact ⟨by show 0 ≤ h3 3 i; have e : h3 3 i = s 390 (5 + 65 * 0 + 1 + i) := q.1; have := q.2.1; omega, by show h3 3 i < _; have e : h3 3 i = s 390 (5 + 65 * 0 + 1 + i) := q.1; have := q.2.2; omega⟩)) rfl rfl rfl rfl rfl (Nat.le_of_ble_eq_true rfl) (fun z4 h4 p4 => ?_)
        obtain ⟨q4, p4⟩ := p4
        have q4 := q4.symm
        subst q4
        have ec4 : z4 = ckO (s 390) := by
          rw [p4]
          show ckF (h3 3) (h3 2 1).toNat = _
          rw [hR3.o5]
          show _ = ckF (fun i => s 390 (6 + i)) (s 390 5).toNat
          refine ckF_congr _ (fun i hi => ?_)
          have e : h3 3 i = s 390 (5 + 65 * 0 + 1 + i) := ((hR3.1 0 (by decide)).2.2.2 i (by show (i : Int) < s 390 5; omega)).1
          exact e.trans (congrArg (s 390) (by omega))
        subst ec4
        refine tl_aload_n rfl rfl ?_
        refine tl_getr (c := 11) (k9 := 19) (b := 386) rfl rfl rfl rfl ?_
        show jT _ _ 123 _ _ _ _
        refine tl_v0i (c9 := 8) (c_Row_checkAll l SPS h3 (by rw [rl3.1]; omega) (by rw [rl3.1, coL_len]; omega) (fun i hi => by rw [rl3.1] at hi; rw [rl3.2 i (by omega)]; have q := (coL_B ogs _ (Nat.le_refl _)).gd (i := i) (by omega); exact ⟨q.1, by have := q.2; omega⟩)) rfl rfl rfl rfl rfl (Nat.le_of_ble_eq_true rfl) (fun z5 h5 p5 => ?_)
        obtain ⟨q5, p5⟩ := p5
        have q5 := q5.symm
        subst q5
        have ec5 : z5 = ckL (coL Y.2.1.1 (s 390) Y.2.1.2) := by
          rw [p5, rl3.1, Int.toNat_natCast]
          exact ckF_congr _ (fun i hi => rl3.2 i hi)
        subst ec5
        refine tl_v4i (c9 := 4) (k_pack l Or383 ⟨by decide, by decide, by decide⟩ h3 Y.2.1.1 Y.2.1.2 og3 ogv (s 390 5) (ckO (s 390)) (ckL (coL Y.2.1.1 (s 390) Y.2.1.2)) ok5 ckO_b ckL_b) rfl rfl rfl rfl rfl (Nat.le_of_ble_eq_true rfl) (fun z6 h6 p6 => ?_)
        obtain ⟨e6, k6, f6⟩ := p6
        have F6 : ∀ x, x ≠ 362 → x ≠ 372 → x ≠ 373 → (x < 383 ∨ 387 < x) → (x < 329 ∨ 338 < x) → h6 x = hs h1 309 1 0 x := fun x a b c d9 e9 => by rw [f6 x e9, fc3 x (by omega) (by omega)]; exact f3x x a b c (by omega)
        have ic6 : IC h6 (Tfs s (-1) (-1)) t := hI.rcp ⟨by decide, by decide⟩ ⟨by decide, by decide⟩ (fun x x1 x2 => by rw [F6 x (by omega) (by omega) (by omega) (by omega) (by omega), hs_O x2]; exact fr1 x (by omega)) (by rw [F6 356 (by decide) (by decide) (by decide) (by omega) (by omega), hs_O (by decide)]; exact fr1 356 (by omega)) (by rw [F6 309 (by decide) (by decide) (by decide) (by omega) (by omega), hs_s]) (by rw [f6 362 (by omega), fc3 362 (by decide) (by decide), f3.2 0 (by decide), hs_o (by decide)]; exact p10) (by rw [f6 362 (by omega), fc3 362 (by decide) (by decide), f3.2 1 (by decide), hs_o (by decide)]; exact p1s)
        refine tl_pop rfl rfl ?_
        refine tl_aload_n rfl rfl ?_
        refine tl_iconst rfl ?_
        refine tl_iload_n rfl rfl ?_
        refine tl_v2i (c9 := 11) (k_keepMade l h6 (Tfs s (-1) (-1)) t 3 k ic6 (by omega) (by omega) (by omega) (by omega) (PKL Y.2.1.1 Y.2.1.2 (s 390 5) (ckO (s 390)) (ckL (coL Y.2.1.1 (s 390) Y.2.1.2))) k6 (by omega) (by omega) pkb.2.2) rfl rfl rfl rfl rfl (Nat.le_of_ble_eq_true rfl) (fun z7 h7 p7 => ?_)
        show jT _ _ 136 _ _ _ _
        refine tl_iret rfl ?_
        -- leaf 0 at 136
        refine ⟨_, rfl, ?_⟩
        have eL : rcL s = PKL Y.2.1.1 Y.2.1.2 (s 390 5) (ckO (s 390)) (ckL (coL Y.2.1.1 (s 390) Y.2.1.2)) := by unfold rcL; rw [eY]
        rw [Drecipe, if_neg (by omega), if_neg (by rw [xg]; decide), eY, eL, if_neg (show ¬ Y.2.2 ≠ 0 by omega)]
        exact p7.from9 (fun x hx => by rw [F6 x (by omega) (by omega) (by omega) (by omega) (by omega), hs_O (by omega)]; exact fr1 x (by omega))
      · show jT _ _ 67 _ _ _ _
        refine tl_aload_n rfl rfl ?_
        refine tl_iload_n rfl rfl ?_
        refine tl_v1i (c9 := 11) (k_refuse l _ _ (by omega) (by omega)) rfl rfl rfl rfl rfl (Nat.le_of_ble_eq_true rfl) (fun zr hr pr => ?_)
        obtain ⟨rfl, rfl⟩ := pr
        refine tl_iret rfl ?_
        -- leaf 1 at 72
        refine ⟨_, rfl, ?_⟩
        rw [Drecipe, if_neg (by omega), if_neg (by rw [xg]; decide), eY, if_pos (show Y.2.2 ≠ 0 by omega), ← ez2]
        obtain ⟨h3, f3, e3⟩ := hzn (by omega)
        subst e3
        have kY := ri0.1
        have ic : IC (hs h3 362 1 (Y.1.1.1 : Int)) (Tfs s (-1) (Y.1.1.1 : Int)) t := hI.rcp ⟨by decide, by decide⟩ ⟨by omega, by omega⟩ (fun x x1 x2 => by rw [hs_O (by omega), f3.1 x (by omega) (by omega) (by omega) (by omega) (by omega) (by omega), hs_O x2]; exact fr1 x (by omega)) (by rw [hs_O (by decide), f3.1 356 (by decide) (by decide) (by decide) (by decide) (by decide) (by decide), hs_O (by decide)]; exact fr1 356 (by omega)) (by rw [hs_o (by decide), f3.1 309 (by decide) (by decide) (by decide) (by decide) (by decide) (by decide), hs_s]) (by rw [hs_k (by decide), f3.2 0 (by decide), hs_o (by decide)]; exact p10) hs_s
        exact (PK.ref ic (by omega) (by omega)).from9 (fun x hx => by rw [hs_O (by omega), f3.1 x (by omega) (by omega) (by omega) (by omega) (by omega) (by omega), hs_O (by omega)]; exact fr1 x (by omega))
    · show jT _ _ 37 _ _ _ _
      refine tl_aload_n rfl rfl ?_
      refine tl_bipush rfl rfl ?_
      show jT _ _ 40 _ _ _ _
      refine tl_v1i (c9 := 11) (k_refuse l _ _ (by omega) (by omega)) rfl rfl rfl rfl rfl (Nat.le_of_ble_eq_true rfl) (fun zr hr pr => ?_)
      obtain ⟨rfl, rfl⟩ := pr
      refine tl_iret rfl ?_
      -- leaf 2 at 43
      refine ⟨_, rfl, ?_⟩
      have xb : (rcX s).1.1 = true := by rcases zc with q | q; exact q.2; exact absurd q.1 (by omega)
      rw [Drecipe, if_neg (by omega), if_pos xb]
      have ic : IC (hs h1 309 1 0) (Tfs s ((rcX s).2.1.1 : Int) (-1)) t := hI.rcp ⟨by omega, by omega⟩ ⟨by decide, by decide⟩ (fun x x1 x2 => by rw [hs_O x2]; exact fr1 x (by omega)) (by rw [hs_O (by decide)]; exact fr1 356 (by omega)) hs_s (by rw [hs_o (by decide)]; exact (pb xb).2) (by rw [hs_o (by decide)]; exact p1s)
      exact (PK.ref ic (by omega) (by omega)).from9 (fun x hx => by rw [hs_O (by omega)]; exact fr1 x (by omega))
  · show jT _ _ 7 _ _ _ _
    refine tl_aload_n rfl rfl ?_
    refine tl_iconst rfl ?_
    refine tl_v1i (c9 := 11) (k_refuse l _ _ (by omega) (by omega)) rfl rfl rfl rfl rfl (Nat.le_of_ble_eq_true rfl) (fun zr hr pr => ?_)
    obtain ⟨rfl, rfl⟩ := pr
    refine tl_iret rfl ?_
    -- leaf 3 at 12
    refine ⟨_, rfl, ?_⟩
    rw [Drecipe, if_pos (by omega)]
    exact PK.ref hI (by omega) (by omega)
