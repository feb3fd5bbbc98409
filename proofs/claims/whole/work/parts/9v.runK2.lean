/-! recipes: run, of the class: the loop -/
theorem FRu.og {h h' : jH} (f : ∀ x, x ≠ 383 → x ≠ 384 → x ≠ 385 → h' x = h x) : FRu h h' := ⟨fun x _ _ _ a b c => f x a b c, fun q _ => by rw [f 362 (by decide) (by decide) (by decide)]⟩
theorem LP9.op {D : Nat → Nat} {S : Nat → Nat → Nat} {T mem : jH} {ns k d : Nat} {SD : List Int} {OP TU : Nat → Int} (h : WF9 D S T ns SD) (ct : CTb mem T SD ns) (p : LP9 D S ns k d OP TU) (e1 : ∀ e, e < d → mem 372 e = OP e ∧ mem 373 e = TU e) : ∀ e, e < d → mem 372 e = OP e ∧ 0 ≤ OP e ∧ OP e < 24 ∧ mem 369 (OP e).toNat = T 4 (OP e).toNat ∧ 0 ≤ T 4 (OP e).toNat ∧ T 4 (OP e).toNat ≤ 24 ∧ mem 373 e = TU e ∧ 1 ≤ TU e ∧ TU e ≤ 9 := by
  intro e he
  have a := p.al h he
  have b := p.2.2 e he
  have n24 := h.2.2.1
  have c := (ct.2.2.1 (OP e).toNat (by omega)).2.2.2.2 a.2.2.2.2.1
  exact ⟨(e1 e he).1, a.2.2.1, by omega, c, by omega, by omega, (e1 e he).2, b.2⟩
/-- what stands when a step was run and loops are to be closed -/
def MD9 (T : jH) (SD : List Int) (R5 : Int) (ns : Nat) (D : Nat → Nat) (S : Nat → Nat → Nat) (s : rST) (mem h1 : jH) (d1 : Nat) (OP1 TU1 : Nat → Int) (g1 : jH) (n1 kk : Nat) : Prop := h1 362 15 = (d1 : Int) ∧ (∀ e, e < d1 → h1 372 e = OP1 e ∧ h1 373 e = TU1 e) ∧ OG h1 383 384 385 g1 n1 ∧ FRu mem h1 ∧ LP9 D S ns kk d1 OP1 TU1 ∧ rz T SD R5 ns s = ((((cl9 T d1 (s.1.1.1 + 1) OP1 TU1).1, (cl9 T d1 (s.1.1.1 + 1) OP1 TU1).2.1), OP1, (cl9 T d1 (s.1.1.1 + 1) OP1 TU1).2.2), (g1, n1), 0)
theorem cl9_le (T : jH) : ∀ d k OP TU, (cl9 T d k OP TU).2.1 ≤ d := by
  intro d
  induction d with
  | zero => intro k OP TU; exact Nat.le_refl _
  | succ d ih =>
    intro k OP TU
    by_cases q : (k : Int) = T 4 (OP d).toNat
    · by_cases q2 : 1 < TU d
      · rw [cl9_b q q2]; exact Nat.le_refl _
      · rw [cl9_c q q2]; exact Nat.le_trans (ih _ _ _) (Nat.le_succ _)
    · rw [cl9_o q]; exact Nat.le_refl _
set_option maxRecDepth 20000 in
set_option maxHeartbeats 1000000 in
theorem md9_k {T : jH} {SD : List Int} {R5 : Int} {ns k d n : Nat} {D : Nat → Nat} {S : Nat → Nat → Nat} {OP TU : Nat → Int} {g mem h1 : jH} {z : Int} (h : WF9 D S T ns SD) (lp : LP9 D S ns k d OP TU) (hk : k < ns) (ed : mem 362 15 = (d : Int)) (e1 : ∀ e, e < d → mem 372 e = OP e ∧ mem 373 e = TU e) (og : OG mem 383 384 385 g n) (p : ((T 0 k = 4 → z = 0 ∧ h1 = hs (hs (hs mem 372 d (k : Int)) 373 d (T 1 k)) 362 15 ((d : Int) + 1)) ∧ (T 0 k ≠ 4 → z = wh9 T R5 k n ∧ (wh9 T R5 k n ≠ 0 → h1 = mem) ∧ (wh9 T R5 k n = 0 → OG h1 383 384 385 (gA T SD k g n (T 1 k).toNat) (n + (T 1 k).toNat) ∧ ∀ x, x ≠ 383 → x ≠ 384 → x ≠ 385 → h1 x = mem x)))) (z0 : z = 0) : ∃ d1 OP1 TU1 g1 n1 kk, MD9 T SD R5 ns D S (((k, d), OP, TU), (g, n), 0) mem h1 d1 OP1 TU1 g1 n1 kk := by
  by_cases c4 : T 0 k = 4
  · have q := (p.1 c4).2
    have t := lp.t h hk c4
    have e : rz T SD R5 ns (((k, d), OP, TU), (g, n), 0) = _ := rz_4 hk c4
    refine ⟨d + 1, ut9 OP d (k : Int), ut9 TU d (T 1 k), g, n, k + 1, ?_, fun e he => ?_, ?_, ?_, t.2.1, ?_⟩
    · rw [q, hs_s]; omega
    · rw [q]
      by_cases ee : e = d
      · subst ee; rw [hs_o (by decide), hs_o (by decide), hs_s, hs_o (by decide), hs_s, ut9_s, ut9_s]; exact ⟨rfl, rfl⟩
      · rw [hs_o (by decide), hs_o (by decide), hs_k ee, hs_o (by decide), hs_k ee, hs_o (by decide), ut9_o ee, ut9_o ee]; exact e1 e (by omega)
    · rw [q]; exact og.of (by rw [hs_O (by decide), hs_O (by decide), hs_O (by decide)]) (by rw [hs_O (by decide), hs_O (by decide), hs_O (by decide)]) (by rw [hs_O (by decide), hs_O (by decide), hs_O (by decide)])
    · rw [q]; exact ⟨fun x a b c _ _ _ => by rw [hs_O a, hs_O c, hs_O b], fun q9 a => by rw [hs_k a, hs_o (by decide), hs_o (by decide)]⟩
    · show rz T SD R5 ns (((k, d), OP, TU), (g, n), 0) = ((((cl9 T (d + 1) (k + 1) (ut9 OP d (k : Int)) (ut9 TU d (T 1 k))).1, _), _, _), _, _)
      rw [rz_4 hk c4, t.2.2]
  · have q := p.2 c4
    have w0 : wh9 T R5 k n = 0 := by rw [← q.1]; exact z0
    have q2 := q.2.2 w0
    have x7 : ∀ x, x ≠ 383 → x ≠ 384 → x ≠ 385 → h1 x = mem x := q2.2
    refine ⟨d, OP, TU, gA T SD k g n (T 1 k).toNat, n + (T 1 k).toNat, k, ?_, fun e he => ?_, q2.1, FRu.og q2.2, lp, rz_g hk c4 w0⟩
    · rw [x7 362 (by decide) (by decide) (by decide)]; exact ed
    · rw [x7 372 (by decide) (by decide) (by decide), x7 373 (by decide) (by decide) (by decide)]; exact e1 e he
set_option maxRecDepth 20000 in
set_option maxHeartbeats 1000000 in
theorem k_run_lp (l : Launch) (h T : jH) (SD : List Int) (ns : Nat) (R : Nat → Int) (D : Nat → Nat) (S : Nat → Nat → Nat) (wf : WF9 D S T ns SD) (ct : CTb h T SD ns) (e5 : h 2 1 = R 5) (r50 : 0 ≤ R 5) (r51 : R 5 ≤ 64) (X : rST) (fin : X.2.2 ≠ 0 ∨ ns ≤ X.1.1.1) (P : Option Value → jH → Prop) (hP0 : ∀ mem, X.2.2 = 0 → OG mem 383 384 385 X.2.1.1 X.2.1.2 → FRu h mem → P (some (.int (jI 0))) mem) (hP1 : ∀ mem, X.2.2 ≠ 0 → FRu h mem → P (some (.int (jI X.2.2))) (hs mem 362 1 (X.1.1.1 : Int))) : ∀ (m : Nat) (r : Nat) (k : Nat) (d : Nat) (n : Nat) (OP : Nat → Int) (TU : Nat → Int) (g : jH) (mem : jH) (y5 : Option Value), 10000 - r < m → (r ≤ 10000 ∧ RI9 D S ns R (((k, d), OP, TU), (g, n), 0) ∧ mem 362 15 = (d : Int) ∧ (∀ e, e < d → mem 372 e = OP e ∧ mem 373 e = TU e) ∧ OG mem 383 384 385 g n ∧ FRu h mem ∧ rit T SD (R 5) ns (10000 - r) (((k, d), OP, TU), (g, n), 0) = X) → jT l 93 15 [some (.ref 362), some (.ref 2), some (.ref 383), some (.int (jI ((k : Int)))), some (.int (jI ((r : Int)))), y5] [] mem P := by
  have rng9 := wf.2.2.2.2.1
  have n24 := wf.2.2.1
  intro m
  induction m with
  | zero => intro r k d n OP TU g mem y5 hk; omega
  | succ m ih =>
    intro r k d n OP TU g mem y5 hk hi
    obtain ⟨r9, ri, ed, e1, og, fr, eX⟩ := hi
    have ri0 := ri
    obtain ⟨lp, n64, ogs, _, _⟩ := ri0
    change LP9 D S ns k d OP TU at lp
    change n ≤ 64 at n64
    have k24 := lp.1
    have ctm := ct.of fr
    refine tl_iload rfl rfl ?_
    refine tl_sipush rfl rfl ?_
    refine tl_icmp_ge (tgt := 69) rfl rfl ⟨by omega, by omega⟩ ⟨by omega, by omega⟩ (fun c1 => ?_) (fun c1 => ?_)
    · skip
      refine tl_iconst rfl ?_
      refine tl_iret rfl ?_
      -- leaf 0 at 70
      first
        | (exfalso; omega)
        | (have nk : ns ≤ k := by omega
           rw [rit_s (Or.inr nk)] at eX
           exact hP0 mem (by rw [← eX]) (by rw [← eX]; exact og) fr)
        | (rw [show 10000 - r = 0 by omega, rit] at eX
           exact hP0 mem (by rw [← eX]) (by rw [← eX]; exact og) fr)
    · show jT _ _ 23 _ _ _ _
      refine tl_iload_n rfl rfl ?_
      show jT _ _ 24 _ _ _ _
      refine tl_if_lt (tgt := 69) rfl rfl ⟨by omega, by omega⟩ (fun c2 => ?_) (fun c2 => ?_)
      · skip
        exfalso; omega
      · show jT _ _ 27 _ _ _ _
        refine tl_iload_n rfl rfl ?_
        refine tl_aload_n rfl rfl ?_
        refine tl_geti (c := 7) (k9 := 6) rfl rfl rfl ?_
        rw [ctm.1]
        refine tl_icmp_ge (tgt := 69) rfl rfl ⟨by omega, by omega⟩ ⟨by omega, by omega⟩ (fun c3 => ?_) (fun c3 => ?_)
        · skip
          refine tl_iconst rfl ?_
          refine tl_iret rfl ?_
          -- leaf 1 at 70
          first
            | (exfalso; omega)
            | (have nk : ns ≤ k := by omega
               rw [rit_s (Or.inr nk)] at eX
               exact hP0 mem (by rw [← eX]) (by rw [← eX]; exact og) fr)
            | (rw [show 10000 - r = 0 by omega, rit] at eX
               exact hP0 mem (by rw [← eX]) (by rw [← eX]; exact og) fr)
        · show jT _ _ 35 _ _ _ _
          show jT _ _ 35 _ _ _ _
          refine tl_aload_n rfl rfl ?_
          refine tl_iload_n rfl rfl ?_
          refine tl_aload_n rfl rfl ?_
          refine tl_aload_n rfl rfl ?_
          refine tl_v3i (c9 := 7) (k_runStep l mem T SD ns k n d g (R 5) ctm (by omega) (rng9 k (by omega)) n64 og ed (fun q => (lp.t wf (by omega) q).1) (by rw [fr.1 2 (by decide) (by decide) (by decide) (by decide) (by decide) (by decide)]; exact e5) r50 r51) rfl rfl rfl rfl rfl (Nat.le_of_ble_eq_true rfl) (fun z1 h1 p1 => ?_)
          have zc : -5 ≤ z1 ∧ z1 ≤ 0 := by
            by_cases c4 : T 0 k = 4
            · rw [(p1.1 c4).1]; decide
            · rw [(p1.2 c4).1]; have := wh9_c (T := T) (R5 := R 5) (k := k) (n := n); omega
          refine tl_istore rfl (Nat.le_of_ble_eq_true rfl) rfl ?_
          refine tl_iload rfl rfl ?_
          show jT _ _ 46 _ _ _ _
          refine tl_if_eq (tgt := 57) rfl rfl ⟨by omega, by omega⟩ (fun c4 => ?_) (fun c4 => ?_)
          · skip
            obtain ⟨d1, OP1, TU1, g1, n1, kk, md⟩ := md9_k wf lp (show k < ns by omega) ed e1 og p1 (show z1 = 0 by omega)
            obtain ⟨ed1, e11, og1, fr1, lp1, erz⟩ := md
            have ct1 := ctm.of fr1
            refine tl_aload_n rfl rfl ?_
            refine tl_iload_n rfl rfl ?_
            refine tl_v1i (c9 := 7) (k_stepBehind l h1 T k d1 (by omega) (lp1.d4 wf) OP1 TU1 ed1 (lp1.op wf ct1 e11)) rfl rfl rfl rfl rfl (Nat.le_of_ble_eq_true rfl) (fun z2 h2 p2 => ?_)
            obtain ⟨ez2, ed2, tu2, f2, f2b⟩ := p2
            subst ez2
            refine tl_istore_n rfl (Nat.le_of_ble_eq_true rfl) rfl ?_
            refine tl_iinc rfl rfl rfl ?_
            refine tl_goto (tgt := 15) rfl rfl ?_
            show jT _ _ 15 _ _ _ _
            -- leaf 2 at 15
            rw [show 10000 - r = (10000 - (r + 1)) + 1 by omega, rit, erz] at eX
            have fr2 : FRu mem h2 := fr1.trans ⟨fun x a b c _ _ _ => f2 x a c, f2b⟩
            have ri2 := (rz_i (R := R) (SD := SD) wf ri).1
            rw [erz] at ri2
            refine jT.loc ?_ (ih (r + 1) _ _ n1 OP1 _ g1 h2 (some (.int (jI z1))) (by omega) ⟨by omega, ri2, ed2, fun e he => ⟨?_, tu2 e he⟩, og1.of (f2 383 (by decide) (by decide)) (f2 384 (by decide) (by decide)) (f2 385 (by decide) (by decide)), fr.trans fr2, eX⟩)
            · rw [show ((r + 1 : Nat) : Int) = (r : Int) + 1 by omega]; rfl
            · rw [f2 372 (by decide) (by decide)]
              have dd := cl9_le T d1 (k + 1) OP1 TU1
              have he2 : e < (cl9 T d1 (k + 1) OP1 TU1).2.1 := he
              exact (e11 e (Nat.lt_of_lt_of_le he2 dd)).1
          · show jT _ _ 49 _ _ _ _
            show jT _ _ 49 _ _ _ _
            refine tl_aload_n rfl rfl ?_
            refine tl_iload_n rfl rfl ?_
            refine tl_puti (c := 7) (k9 := 1) rfl rfl rfl rfl ?_
            refine tl_iload rfl rfl ?_
            refine tl_iret rfl ?_
            -- leaf 3 at 56
            have c4 : T 0 k ≠ 4 := fun q => by have := (p1.1 q).1; omega
            have q := p1.2 c4
            have wn : wh9 T (R 5) k n ≠ 0 := by rw [← q.1]; omega
            rw [show 10000 - r = (10000 - (r + 1)) + 1 by omega, rit, rz_w (by omega) c4 wn, rit_s (Or.inl wn)] at eX
            rw [q.2.1 wn, q.1]
            have hq := hP1 mem (by rw [← eX]; exact wn) fr
            rw [← eX] at hq
            exact hq
set_option maxRecDepth 20000 in
set_option maxHeartbeats 1000000 in
theorem k_run (l : Launch) (h T : jH) (SD : List Int) (ns : Nat) (R : Nat → Int) (D : Nat → Nat) (S : Nat → Nat → Nat) (wf : WF9 D S T ns SD) (ct : CTb h T SD ns) (e5 : h 2 1 = R 5) (r50 : 0 ≤ R 5) (r51 : R 5 ≤ 64) : cI l 93 [.ref 362, .ref 2, .ref 383] h (fun z h' => z = (rX T SD (R 5) ns).2.2 ∧ (z = 0 → OG h' 383 384 385 (rX T SD (R 5) ns).2.1.1 (rX T SD (R 5) ns).2.1.2 ∧ FRu h h') ∧ (z ≠ 0 → ∃ h0, FRu h h0 ∧ h' = hs h0 362 1 ((rX T SD (R 5) ns).1.1.1 : Int))) := by
  have rx := rX_i (R := R) (SD := SD) wf
  refine cI.of rfl rfl ?_
  refine tl_aload_n rfl rfl ?_
  refine tl_iconst rfl ?_
  refine tl_puti (c := 3) (k9 := 2) rfl rfl rfl rfl ?_
  refine tl_aload_n rfl rfl ?_
  refine tl_iconst rfl ?_
  refine tl_puti (c := 7) (k9 := 15) rfl rfl rfl rfl ?_
  show jT _ _ 10 _ _ _ _
  refine tl_iconst rfl ?_
  refine tl_istore_n rfl (Nat.le_of_ble_eq_true rfl) rfl ?_
  refine tl_iconst rfl ?_
  refine tl_istore rfl (Nat.le_of_ble_eq_true rfl) rfl ?_
  show jT _ _ 15 _ _ _ _
  -- leaf 0 at 15
  have f0 : FRu h (hs (hs h 383 2 0) 362 15 0) := ⟨fun x a _ _ b _ _ => by rw [hs_O a, hs_O b], fun q a => by rw [hs_k a, hs_o (by decide)]⟩
  refine k_run_lp l h T SD ns R D S wf ct e5 r50 r51 (rX T SD (R 5) ns) rx.2 _ (fun mem z0 og fr => ⟨0, rfl, z0.symm, fun _ => ⟨og, fr⟩, fun q => absurd rfl q⟩) (fun mem zn fr => ⟨_, rfl, rfl, fun q => absurd q zn, fun _ => ⟨mem, fr, rfl⟩⟩) _ 0 0 0 0 (fun _ => 0) (fun _ => 0) (fun _ _ => 0) _ _ (Nat.lt_succ_self _) ⟨Nat.zero_le _, ⟨⟨Nat.zero_le _, wf.1.symm, fun e he => absurd he (Nat.not_lt_zero _)⟩, Nat.zero_le _, fun i hi => absurd hi (Nat.not_lt_zero _), by show (-5 : Int) ≤ 0; decide, by show (0 : Int) ≤ 0; decide⟩, by rw [hs_s]; rfl, fun e he => absurd he (Nat.not_lt_zero _), ⟨by rw [hs_o (by decide), hs_s]; rfl, fun i hi => absurd hi (Nat.not_lt_zero _)⟩, f0, rfl⟩
