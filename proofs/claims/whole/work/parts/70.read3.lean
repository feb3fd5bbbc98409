/-! a patch read as a whole, of the walked file: read, done -/
theorem plF_f9 (B : Nat → Int) (N : Nat) : ∀ m p V, 0 ≤ (plF B N m p V).1 ∧ (plF B N m p V).1 ≤ 5 := by
  intro m
  induction m with
  | zero => intro p V; rw [plF]; exact ⟨by simp, by simp⟩
  | succ m ih => intro p V; rw [plF]; split; exact ih _ _; exact ⟨by simp, by simp⟩
theorem zrR_f9 (B : Nat → Int) (N many : Nat) : ∀ m p V, 0 ≤ (zrR B N many m p V).1 ∧ (zrR B N many m p V).1 ≤ 5 := by
  intro m
  induction m with
  | zero => intro p V; rw [zrR]; exact ⟨by simp, by simp⟩
  | succ m ih => intro p V; rw [zrR]; repeat' (first | exact ih _ _ | exact plF_f9 _ _ _ _ _ | split | exact ⟨by simp, by simp⟩)
theorem rnQ_f9 (B : Nat → Int) (N many : Nat) : ∀ m p V, 0 ≤ (rnQ B N many m p V).1 ∧ (rnQ B N many m p V).1 ≤ 5 := by
  intro m
  induction m with
  | zero => intro p V; rw [rnQ]; exact ⟨by simp, by simp⟩
  | succ m ih => intro p V; rw [rnQ]; repeat' (first | exact ih _ _ | exact plF_f9 _ _ _ _ _ | split | exact ⟨by simp, by simp⟩)
theorem rwR_f (B : Nat → Int) (N many p : Nat) : 0 ≤ (rwR B N many p).1 ∧ (rwR B N many p).1 ≤ 5 := by
  rw [rwR]
  split
  · exact ⟨by simp, by simp⟩
  split
  · exact ⟨by simp, by simp⟩
  split
  · exact plF_f9 _ _ _ _ _
  split
  · exact zrR_f9 _ _ _ _ _ _
  · exact rnQ_f9 _ _ _ _ _ _
theorem pfb (B : Nat → Int) (N : Nat) (os ns : Int) (p : Nat × Nat) (h : ptF B N os ns p.1 p.2 ≠ 0) : ptF B N os ns p.1 p.2 = 3 ∨ ptF B N os ns p.1 p.2 = 5 := by
  have g : ∀ i, ptS B N os ns p.1 i 0 0 = 0 ∨ ptS B N os ns p.1 i 0 0 = 3 ∨ ptS B N os ns p.1 i 0 0 = 5 := by
    intro i
    induction i with
    | zero => exact Or.inl rfl
    | succ i ih =>
      rw [ptS]
      split
      · rename_i c
        rw [pt1]
        split
        · rw [hs_s]; exact Or.inr (Or.inl rfl)
        · split
          · rw [hs_s]; exact Or.inr (Or.inr rfl)
          · exact Or.inl c
      · exact ih
  have := g p.2
  unfold ptF at h ⊢
  by_cases c : ptS B N os ns p.1 p.2 0 0 = 0
  · rw [if_pos c] at h ⊢
    by_cases d : ptS B N os ns p.1 p.2 0 3 < ns
    · rw [if_pos d]; exact Or.inr rfl
    · rw [if_neg d] at h; exact absurd rfl h
  · rw [if_neg c]; omega
set_option maxRecDepth 20000 in
set_option maxHeartbeats 1000000 in
theorem k_read (l : Launch) {rp ap np9 : Nat} (hS2 : RowS rp ap np9) (hD : (rp < 339 ∨ 355 < rp) ∧ (ap < 339 ∨ 355 < ap)) (h : jH) (R : Nat → Int) (hR : RS h 1 R) (V : List Int) (kV : RL h rp ap V) (hV : LB V) (v2 : V.length ≤ np9) (v3 : V.length ≤ 300) (fo : Bool) : cI l 65 [.ref 339, .ref rp, .ref 2, .int (jI (zb fo))] h (fun z h' => (z = rdF V fo R ∧ (rdF V fo R = 0 → RDP h' V ∧ (zb fo = 1 → RL h' 348 349 (coL (rG V) R (rNs V).toNat))) ∧ ∀ x, (x < 339 ∨ 355 < x) → h' x = h x)) := by
  have hB : BB (TB V) (rN V) := TB_b hV (by unfold rN; omega)
  have fb9 := zb_b fo
  refine cI.of rfl rfl ?_
  refine tl_aload_n rfl rfl ?_
  refine tl_getr (c := 6) (k9 := 12) (b := 350) rfl rfl rfl rfl ?_
  refine tl_aload_n rfl rfl ?_
  refine tl_v1v (c9 := 8) (c_copyL l R350 hS2 h V kV v2 v3) rfl rfl rfl rfl rfl (Nat.le_of_ble_eq_true rfl) (fun h1 p1 => ?_)
  obtain ⟨k1, f1⟩ := p1
  refine tl_aload_n rfl rfl ?_
  refine tl_v0i (c9 := 6) (k_checkFlaw l h1 V k1 hV v3) rfl rfl rfl rfl rfl (Nat.le_of_ble_eq_true rfl) (fun zc h2 p2 => ?_)
  obtain ⟨e2, k2, f2⟩ := p2
  have ckb : 0 ≤ ckf V ∧ ckf V ≤ 2 := by unfold ckf; repeat (first | omega | split)
  show jT _ _ 12 _ _ _ _
  refine tl_istore rfl (Nat.le_of_ble_eq_true rfl) rfl ?_
  refine tl_iload rfl rfl ?_
  refine tl_if_ne (tgt := 27) rfl rfl ⟨by omega, by omega⟩ (fun c1 => ?_) (fun c1 => ?_)
  · skip
    show jT _ _ 27 _ _ _ _
    -- leaf 0 at 27
    have cb : ckf V = 1 ∨ ckf V = 2 := by have : ckf V = zc := e2.symm; unfold ckf at *; revert this; split; omega; split <;> omega
    have ef : rdF V fo R = zc := by unfold rdF; rw [if_pos (by omega), ← e2]
    refine k_rdb27 l rp fo h2 _ (by omega) (by omega) _ ⟨_, rfl, ?_⟩
    exact ⟨ef.symm, fun q => by rw [ef] at q; omega, fun x hx => by rw [f2.1 x (by omega), f1 x (by omega) (by omega)]⟩
  · show jT _ _ 19 _ _ _ _
    refine tl_aload_n rfl rfl ?_
    refine tl_aload_n rfl rfl ?_
    refine tl_iload_n rfl rfl ?_
    refine tl_v2i (c9 := 6) (k_headFlaw l h2 R (hR.of (fun x x1 x2 => by rw [f2.1 x (by omega), f1 x (by omega) (by omega)])) (TB V) (rN V) (k2 (by omega)) fo) rfl rfl rfl rfl rfl (Nat.le_of_ble_eq_true rfl) (fun zh h3 p3 => ?_)
    show jT _ _ 25 _ _ _ _
    refine tl_istore rfl (Nat.le_of_ble_eq_true rfl) rfl ?_
    show jT _ _ 27 _ _ _ _
    -- leaf 1 at 27
    obtain ⟨e3, f3, k3⟩ := p3
    by_cases z2 : hdF (TB V) (rN V) fo R = 0
    rotate_left
    · have e3b : zh = hdF (TB V) (rN V) fo R := e3
      have hb : 0 ≤ hdF (TB V) (rN V) fo R ∧ hdF (TB V) (rN V) fo R ≤ 5 := by unfold hdF; repeat (first | omega | split)
      have ef : rdF V fo R = zh := by unfold rdF; rw [if_neg (by omega), if_pos (by omega), e3b]
      refine k_rdb27 l rp fo h3 _ (by omega) (by omega) _ ⟨_, rfl, ?_⟩
      exact ⟨ef.symm, fun q => by rw [ef] at q; omega, fun x hx => by rw [f3.1 x (by omega), f2.1 x (by omega), f1 x (by omega) (by omega)]⟩
    have e3b : zh = 0 := e3.trans z2
    have H := k3 z2
    have I0 := rd_I hV z2
    rw [e3b]
    refine tl_iload rfl rfl ?_
    refine tl_if_ne (tgt := 38) rfl rfl ⟨by omega, by omega⟩ (fun c1 => ?_) (fun c1 => ?_)
    · skip
      exfalso; omega
    · show jT _ _ 32 _ _ _ _
      refine tl_aload_n rfl rfl ?_
      refine tl_v0i (c9 := 6) (k_partsFlaw l h3 (TB V) (rN V) (hd5 (TB V) (rN V)).2 (rNp V) (rOs V) (rNs V) hB I0.2.2.2.2.2.1.1 (by unfold rN; omega) I0.1 I0.2.2.1 I0.2.2.2.2.1.2 H.2.2.2.2.2 ⟨H.1, H.2.2.1, by rw [I0.2.2.2.2.1.1]; exact H.2.2.2.2.1⟩) rfl rfl rfl rfl rfl (Nat.le_of_ble_eq_true rfl) (fun zp h4 p4 => ?_)
      refine tl_istore rfl (Nat.le_of_ble_eq_true rfl) rfl ?_
      show jT _ _ 38 _ _ _ _
      -- leaf 0 at 38
      obtain ⟨e4, k4, f4, f4q⟩ := p4
      by_cases z3 : rPf V = 0
      rotate_left
      · have e4b : zp = rPf V := e4
        have pb : rPf V = 3 ∨ rPf V = 5 := pfb (TB V) (rN V) (rOs V) (rNs V) ((hd5 (TB V) (rN V)).2, rNp V) z3
        have ef : rdF V fo R = zp := by unfold rdF; rw [if_neg (by omega), if_neg (by omega), if_pos (by omega), e4b]
        refine k_rdb38 l rp fo h4 _ (by omega) (by omega) _ ⟨_, rfl, ?_⟩
        exact ⟨ef.symm, fun q => by rw [ef] at q; omega, fun x hx => by rw [f4 x (by omega), f3.1 x (by omega), f2.1 x (by omega), f1 x (by omega) (by omega)]⟩
      have e4b : zp = 0 := e4.trans z3
      have K4 := k4 z3
      have P0 := rd_P hV v3 z2 z3
      rw [e4b]
      refine tl_iload rfl rfl ?_
      refine tl_if_ne (tgt := 58) rfl rfl ⟨by omega, by omega⟩ (fun c1 => ?_) (fun c1 => ?_)
      · skip
        exfalso; omega
      · show jT _ _ 43 _ _ _ _
        refine tl_aload_n rfl rfl ?_
        refine tl_aload_n rfl rfl ?_
        refine tl_getr (c := 6) (k9 := 13) (b := 352) rfl rfl rfl rfl ?_
        refine tl_aload_n rfl rfl ?_
        show jT _ _ 49 _ _ _ _
        refine tl_geti (c := 6) (k9 := 15) rfl rfl rfl ?_
        rw [K4.2.1, show ptS (TB V) (rN V) (rOs V) (rNs V) (hd5 (TB V) (rN V)).2 (rNp V) 0 4 = (rC V : Int) from P0.2.2.2.1.symm]
        refine tl_iconst rfl ?_
        refine tl_v3i (c9 := 6) (k_rowFlaw l R352 (by omega) h4 (TB V) (rN V) hB (rC V) (rS V 0 1).toNat 0 (by have := I0.2.2.1; have := P0.2.2.2; omega) (by have := I0.2.2.1; have := P0.2.2.2; omega) (by omega) K4.1) rfl rfl rfl rfl rfl (Nat.le_of_ble_eq_true rfl) (fun zr1 h5 p5 => ?_)
        refine tl_istore rfl (Nat.le_of_ble_eq_true rfl) rfl ?_
        show jT _ _ 58 _ _ _ _
        -- leaf 0 at 58
        obtain ⟨e5, k5, f5, g5, w5⟩ := p5
        by_cases z5 : (r1 V).1 = 0
        rotate_left
        · have e5b : zr1 = (r1 V).1 := e5
          have f9b := rwR_f (TB V) (rN V) (rC V) (rS V 0 1).toNat
          rw [show rwR (TB V) (rN V) (rC V) (rS V 0 1).toNat = r1 V from rfl] at f9b
          have ef : rdF V fo R = zr1 := by unfold rdF; rw [if_neg (by omega), if_neg (by omega), if_neg (by omega), if_pos (by omega), e5b]
          refine k_rdb58 l rp fo h5 _ (by omega) (by omega) _ ⟨_, rfl, ?_⟩
          exact ⟨ef.symm, fun q => by rw [ef] at q; omega, fun x hx => by rw [f5 x (by omega) (by omega) (by omega) (by omega), f4 x (by omega), f3.1 x (by omega), f2.1 x (by omega), f1 x (by omega) (by omega)]⟩
        have e5b : zr1 = 0 := e5.trans z5
        rw [e5b]
        refine tl_iload rfl rfl ?_
        refine tl_if_ne (tgt := 83) rfl rfl ⟨by omega, by omega⟩ (fun c1 => ?_) (fun c1 => ?_)
        · skip
          exfalso; omega
        · show jT _ _ 63 _ _ _ _
          refine tl_aload_n rfl rfl ?_
          refine tl_aload_n rfl rfl ?_
          refine tl_getr (c := 6) (k9 := 14) (b := 354) rfl rfl rfl rfl ?_
          refine tl_aload_n rfl rfl ?_
          show jT _ _ 69 _ _ _ _
          refine tl_geti (c := 6) (k9 := 2) rfl rfl rfl ?_
          rw [g5 2 (by decide), f4q 2 (by decide) (by decide), H.2.2.1, show (hd3 (TB V) (rN V)).1 = rNs V from rfl]
          refine tl_aload_n rfl rfl ?_
          refine tl_geti (c := 6) (k9 := 15) rfl rfl rfl ?_
          rw [g5 15 (by decide), K4.2.1, show ptS (TB V) (rN V) (rOs V) (rNs V) (hd5 (TB V) (rN V)).2 (rNp V) 0 4 = rS V 0 4 from rfl]
          refine tl_isub rfl ?_
          rw [show rNs V - rS V 0 4 = (((rNs V).toNat - rC V : Nat) : Int) by have := P0.2.2.2; omega]
          refine tl_iconst rfl ?_
          refine tl_v3i (c9 := 6) (k_rowFlaw l R354 (by omega) h5 (TB V) (rN V) hB ((rNs V).toNat - rC V) (r1 V).2.1 1 (by omega) (by omega) (by omega) (k5 z5).1) rfl rfl rfl rfl rfl (Nat.le_of_ble_eq_true rfl) (fun zr2 h7 p7 => ?_)
          refine tl_istore rfl (Nat.le_of_ble_eq_true rfl) rfl ?_
          show jT _ _ 83 _ _ _ _
          -- leaf 0 at 83
          obtain ⟨e7, k7, f7, g7, w7⟩ := p7
          have fa : ∀ x, (x < 339 ∨ 355 < x) → h7 x = h x := fun x hx => by rw [f7 x (by omega) (by omega) (by omega) (by omega), f5 x (by omega) (by omega) (by omega) (by omega), f4 x (by omega), f3.1 x (by omega), f2.1 x (by omega), f1 x (by omega) (by omega)]
          by_cases z7 : (r2 V).1 = 0
          rotate_left
          · have e7b : zr2 = (r2 V).1 := e7
            have f9b := rwR_f (TB V) (rN V) ((rNs V).toNat - rC V) (r1 V).2.1
            rw [show rwR (TB V) (rN V) ((rNs V).toNat - rC V) (r1 V).2.1 = r2 V from rfl] at f9b
            have ef : rdF V fo R = zr2 := by unfold rdF; rw [if_neg (by omega), if_neg (by omega), if_neg (by omega), if_neg (by omega), if_pos (by omega), e7b]
            refine k_rdb83 l rp fo h7 _ (by omega) (by omega) _ ⟨_, rfl, ?_⟩
            exact ⟨ef.symm, fun q => by rw [ef] at q; omega, fa⟩
          have e7b : zr2 = 0 := e7.trans z7
          have G := rd_G hV v3 z2 z3 z5 z7
          have k7a1 : h7 339 16 = ((r2 V).2.1 : Int) := (k7 z7).1.1
          have k7a2 : h7 339 17 = (rN V : Int) := (k7 z7).1.2.1
          have G21 := G.2.1.2.2
          have nN : rN V ≤ 298 := by unfold rN; omega
          have k7b := (k7 z7).2.1
          have q0 : h7 339 0 = rOs V := by rw [g7 0 (by decide), g5 0 (by decide), f4q 0 (by decide) (by decide)]; exact H.1
          have q1 : h7 339 1 = rOc V := by rw [g7 1 (by decide), g5 1 (by decide), f4q 1 (by decide) (by decide)]; exact H.2.1
          have q2 : h7 339 2 = rNs V := by rw [g7 2 (by decide), g5 2 (by decide), f4q 2 (by decide) (by decide)]; exact H.2.2.1
          have q3 : h7 339 3 = rNc V := by rw [g7 3 (by decide), g5 3 (by decide), f4q 3 (by decide) (by decide)]; exact H.2.2.2.1
          have n7 : h7 339 4 = (rNp V : Int) := by rw [g7 4 (by decide), g5 4 (by decide), f4q 4 (by decide) (by decide), I0.2.2.2.2.1.1]; exact H.2.2.2.2.1
          have kp7 : PTK h7 (rS V) (rNp V) := K4.2.2.of (fun x x1 x2 => by rw [f7 x (by omega) (by omega) (by omega) (by omega), f5 x (by omega) (by omega) (by omega) (by omega)])
          have kD7 : RL h7 352 353 (r1 V).2.2 := ((k5 z5).2.1).of (f7 352 (by decide) (by decide) (by decide) (by decide)) (f7 353 (by decide) (by decide) (by decide) (by decide))
          have w0 : h7 344 0 = (rn (TB V) (rN V) (rS V 0 1).toNat).1 := by rw [w7 0 (by decide)]; exact (k5 z5).2.2
          have w1 : h7 344 1 = (rn (TB V) (rN V) (r1 V).2.1).1 := (k7 z7).2.2
          rw [e7b]
          have P1 := rd_P hV v3 z2 z3
          obtain ⟨i1, i2, i3, i4, i5, i6, i7⟩ := I0
          refine tl_iload rfl rfl ?_
          refine tl_if_ne (tgt := 103) rfl rfl ⟨by omega, by omega⟩ (fun c1 => ?_) (fun c1 => ?_)
          · skip
            exfalso; omega
          · show jT _ _ 88 _ _ _ _
            refine tl_aload_n rfl rfl ?_
            refine tl_geti (c := 6) (k9 := 16) rfl rfl rfl ?_
            rw [k7a1]
            refine tl_aload_n rfl rfl ?_
            refine tl_geti (c := 6) (k9 := 17) rfl rfl rfl ?_
            rw [k7a2]
            show jT _ _ 96 _ _ _ _
            refine tl_icmp_ge (tgt := 103) rfl rfl ⟨by omega, by omega⟩ ⟨by omega, by omega⟩ (fun c2 => ?_) (fun c2 => ?_)
            · skip
              refine tl_iload rfl rfl ?_
              refine tl_if_eq (tgt := 111) rfl rfl ⟨by omega, by omega⟩ (fun c3 => ?_) (fun c3 => ?_)
              · skip
                refine tl_aload_n rfl rfl ?_
                refine tl_v0v (c9 := 6) (k_fillO l h7 (rS V) (r1 V).2.2 (r2 V).2.2 (rNp V) (rN V) (hd5 (TB V) (rN V)).2 (rOs V) (rNs V) P1.1 i3.2 i1.2 P1.2.2.1 n7 kp7 kD7 k7b (by rw [G.1.1, P1.2.2.2.1]; exact P1.1.bq'.2.2.1) (by rw [G.2.1.1]; have := P1.1.bq'.2.2.1; omega) P1.2.1) rfl rfl rfl rfl rfl (Nat.le_of_ble_eq_true rfl) (fun h8 p8 => ?_)
                obtain ⟨k8, k9, f8⟩ := p8
                have hR8 : RS h8 1 R := hR.of (fun x x1 x2 => by rw [f8 x (by omega)]; exact fa x (by omega))
                have fb : ∀ x, (x < 339 ∨ 355 < x) → h8 x = h x := fun x hx => by rw [f8 x (by omega)]; exact fa x hx
                have hg8 : OG h8 345 346 347 (rG V) (rNs V).toNat := ⟨by rw [k8]; omega, fun q hq => k9 q (by omega)⟩
                have rd8 : RDP h8 V := ⟨⟨by rw [f8 339 (by omega)]; exact q0, by rw [f8 339 (by omega)]; exact q1, by rw [f8 339 (by omega)]; exact q2, by rw [f8 339 (by omega)]; exact q3, by rw [f8 339 (by omega)]; exact n7⟩, kp7.of (fun x x1 x2 => f8 x (by omega)), hg8, by rw [f8 344 (by omega)]; exact w0, by rw [f8 344 (by omega)]; exact w1⟩
                refine tl_iload_n rfl rfl ?_
                refine tl_if_eq (tgt := 127) rfl rfl ⟨by omega, by omega⟩ (fun c4 => ?_) (fun c4 => ?_)
                · skip
                  have eo := zb0 c4
                  show jT _ _ 127 _ _ _ _
                  refine tl_iconst rfl ?_
                  refine tl_iret rfl ?_
                  -- leaf 0 at 128
                  first
                    | (have eb := zb_f eo
                       have ef : rdF V fo R = 0 := by unfold rdF; rw [if_neg (by omega), if_neg (by omega), if_neg (by omega), if_neg (by omega), if_neg (by omega), if_neg (by omega), if_neg (by omega)]
                       exact ⟨_, rfl, ef.symm, fun _ => ⟨rd8, fun z => by omega⟩, fb⟩)
                    | (have eb := zb_t eo
                       have ef : rdF V fo R = z9 := by
                         unfold rdF
                         rw [if_neg (by omega), if_neg (by omega), if_neg (by omega), if_neg (by omega), if_neg (by omega), if_neg (by omega), e9]
                         by_cases c : ckL (coL (rG V) R (rNs V).toNat) = rNc V
                         · rw [if_pos c, if_neg (fun w => w.2 c)]
                         · rw [if_neg c, if_pos ⟨eb, c⟩]
                       have rd9 : RDP h9 V := ⟨⟨by rw [f9 339 (by decide) (by decide)]; exact rd8.1.1, by rw [f9 339 (by decide) (by decide)]; exact rd8.1.2.1, by rw [f9 339 (by decide) (by decide)]; exact rd8.1.2.2.1, by rw [f9 339 (by decide) (by decide)]; exact rd8.1.2.2.2.1, by rw [f9 339 (by decide) (by decide)]; exact rd8.1.2.2.2.2⟩, rd8.2.1.of (fun x x1 x2 => f9 x (by omega) (by omega)), rd8.2.2.1.of (f9 345 (by decide) (by decide)) (f9 346 (by decide) (by decide)) (f9 347 (by decide) (by decide)), by rw [f9 344 (by decide) (by decide)]; exact rd8.2.2.2.1, by rw [f9 344 (by decide) (by decide)]; exact rd8.2.2.2.2⟩
                       exact ⟨_, rfl, ef.symm, fun _ => ⟨rd9, fun _ => k10⟩, fun x hx => by rw [f9 x (by omega) (by omega)]; exact fb x hx⟩)
                · show jT _ _ 119 _ _ _ _
                  have eo := zb1' c4
                  refine tl_aload_n rfl rfl ?_
                  refine tl_aload_n rfl rfl ?_
                  refine tl_v1i (c9 := 6) (k_outFlaw l h8 R hR8 (rG V) (rNs V).toNat (rNc V) rd8.1.2.2.2.1 i4 hg8 G.2.2.1 (G.2.2.2.1 (zb_t eo))) rfl rfl rfl rfl rfl (Nat.le_of_ble_eq_true rfl) (fun z9 h9 p9 => ?_)
                  obtain ⟨e9, k10, f9⟩ := p9
                  refine tl_goto (tgt := 128) rfl rfl ?_
                  refine tl_iret rfl ?_
                  -- leaf 1 at 128
                  first
                    | (have eb := zb_f eo
                       have ef : rdF V fo R = 0 := by unfold rdF; rw [if_neg (by omega), if_neg (by omega), if_neg (by omega), if_neg (by omega), if_neg (by omega), if_neg (by omega), if_neg (by omega)]
                       exact ⟨_, rfl, ef.symm, fun _ => ⟨rd8, fun z => by omega⟩, fb⟩)
                    | (have eb := zb_t eo
                       have ef : rdF V fo R = z9 := by
                         unfold rdF
                         rw [if_neg (by omega), if_neg (by omega), if_neg (by omega), if_neg (by omega), if_neg (by omega), if_neg (by omega), e9]
                         by_cases c : ckL (coL (rG V) R (rNs V).toNat) = rNc V
                         · rw [if_pos c, if_neg (fun w => w.2 c)]
                         · rw [if_neg c, if_pos ⟨eb, c⟩]
                       have rd9 : RDP h9 V := ⟨⟨by rw [f9 339 (by decide) (by decide)]; exact rd8.1.1, by rw [f9 339 (by decide) (by decide)]; exact rd8.1.2.1, by rw [f9 339 (by decide) (by decide)]; exact rd8.1.2.2.1, by rw [f9 339 (by decide) (by decide)]; exact rd8.1.2.2.2.1, by rw [f9 339 (by decide) (by decide)]; exact rd8.1.2.2.2.2⟩, rd8.2.1.of (fun x x1 x2 => f9 x (by omega) (by omega)), rd8.2.2.1.of (f9 345 (by decide) (by decide)) (f9 346 (by decide) (by decide)) (f9 347 (by decide) (by decide)), by rw [f9 344 (by decide) (by decide)]; exact rd8.2.2.2.1, by rw [f9 344 (by decide) (by decide)]; exact rd8.2.2.2.2⟩
                       exact ⟨_, rfl, ef.symm, fun _ => ⟨rd9, fun _ => k10⟩, fun x hx => by rw [f9 x (by omega) (by omega)]; exact fb x hx⟩)
              · show jT _ _ 108 _ _ _ _
                exfalso; omega
            · show jT _ _ 99 _ _ _ _
              show jT _ _ 99 _ _ _ _
              refine tl_bipush rfl rfl ?_
              refine tl_istore rfl (Nat.le_of_ble_eq_true rfl) rfl ?_
              refine tl_iload rfl rfl ?_
              refine tl_if_eq (tgt := 111) rfl rfl ⟨by omega, by omega⟩ (fun c5 => ?_) (fun c5 => ?_)
              · skip
                exfalso; omega
              · show jT _ _ 108 _ _ _ _
                refine tl_iload rfl rfl ?_
                refine tl_iret rfl ?_
                -- leaf 2 at 110
                have ef : rdF V fo R = 6 := by unfold rdF; rw [if_neg (by omega), if_neg (by omega), if_neg (by omega), if_neg (by omega), if_neg (by omega), if_pos (by omega)]
                exact ⟨_, rfl, ef.symm, fun q => by rw [ef] at q; omega, fa⟩
