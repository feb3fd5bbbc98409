/-! a patch read as a whole, of the reference: head, slots -/
def rdU (V : List Int) (fo : Bool) (R : Nat → Int) : Int := if hdF (TB V) (rN V) fo R ≠ 0 then hdF (TB V) (rN V) fo R else if rPf V ≠ 0 then rPf V else rdT V fo R
theorem rdU_e (V : List Int) (fo : Bool) (R : Nat → Int) : rdF V fo R = if ckf V ≠ 0 then ckf V else rdU V fo R := rfl
set_option maxRecDepth 20000 in
set_option maxHeartbeats 1000000 in
theorem r_t165g (l : Launch) (mem : jH) (V : List Int) (hV : LB V) (v3 : V.length ≤ 300) (fo : Bool) (R : Nat → Int) (e390 : mem 390 = R) (ok : Rok R) (k9 : RDR mem (TB V) (rN V) (hd2 (TB V) (rN V)).2 0) (x1 : ¬ (hd1 (TB V) (rN V)).1 < 0) (x1b : ¬ 64 < (hd1 (TB V) (rN V)).1) (x2 : ¬ (hd2 (TB V) (rN V)).1 < 0) (x3 : ¬ (zb fo = 1 ∧ ((hd1 (TB V) (rN V)).1 ≠ R 5 ∨ (hd2 (TB V) (rN V)).1 ≠ ckO R))) (h34 : mem 388 34 = (hd1 (TB V) (rN V)).1) (h35 : mem 388 35 = (hd2 (TB V) (rN V)).1) (sz : Int) (P : Option Value → jH → Prop) (hP : ∀ z m2, (z = rdU V fo R ∧ (rdU V fo R = 0 → RDRP m2 V ∧ (zb fo = 1 → ∀ q, q < (rNs V).toNat → m2 413 q = coV (rG V) R q)) ∧ FT9 mem m2) → P (some (.int (jI z))) m2) : jT l 289 165 [some (.ref 388), some (.int (jI (sz))), some (.int (jI (zb fo))), none] [] mem P := by
  have hB : BB (TB V) (rN V) := TB_b hV (by unfold rN; omega)
  have fb9 := zb_b fo
  have nN : rN V ≤ 298 := by unfold rN; omega
  have hdb := hd_b hB
  have o5 := ok.o5
  have hdb1 : (hd1 (TB V) (rN V)).2 ≤ rN V := hdb.1.2.1
  have hdb2 : (hd2 (TB V) (rN V)).2 ≤ rN V := hdb.2.1.2.1
  have hdb3 : (hd3 (TB V) (rN V)).2 ≤ rN V := hdb.2.2.1.2.1
  have hdb4 : (hd4 (TB V) (rN V)).2 ≤ rN V := hdb.2.2.2.1.2.1
  have hdb5 : (hd5 (TB V) (rN V)).2 ≤ rN V := hdb.2.2.2.2.2.1
  have hv1 := hdb.1.1
  have hv2 := hdb.2.1.1
  have hv3 := hdb.2.2.1.1
  have hv4 := hdb.2.2.2.1.1
  have hv5 := hdb.2.2.2.2.1
  clear hdb
  refine tl_aload_n rfl rfl ?_
  refine tl_aload_n rfl rfl ?_
  refine tl_v0i (c9 := 12) (r_nextNum l mem (TB V) (rN V) (hd2 (TB V) (rN V)).2 0 k9) rfl rfl rfl rfl rfl (Nat.le_of_ble_eq_true rfl) (fun z4 h4 p4 => ?_)
  show jT _ _ 170 _ _ _ _
  -- leaf 0 at 170
  obtain ⟨e4, k4, f4⟩ := p4
  have zb4 := rnR_b hB hdb2 ⟨Int.le_refl 0, by decide⟩
  by_cases x4 : (hd3 (TB V) (rN V)).1 < 0
  · skip
    have e3 := (rnR_e hB hdb2).2 x4
    rw [e3] at k4
    rw [← e4] at zb4
    have er : rdU V fo R = 3 := by
      have eh : hdF (TB V) (rN V) fo R = 3 := by unfold hdF; rw [if_neg x1, if_neg (by omega), if_neg x2, if_neg x3, if_pos x4]
      unfold rdU; rw [eh, if_pos (by decide)]
    exact r_t170 l h4 (TB V) (rN V) _ 3 k4 (by decide) sz fo none z4 zb4 P (fun m2 a => hP 3 m2 ⟨er.symm, fun w => by rw [er] at w; exact absurd w (by decide), f4.t9.trans a⟩)
  have e3 := (rnR_e hB hdb2).1 (Int.not_lt.mp x4)
  rw [e3] at e4 k4
  change z4 = (hd3 (TB V) (rN V)).1 at e4
  change RDR h4 (TB V) (rN V) (hd3 (TB V) (rN V)).2 0 at k4
  subst e4
  clear e3
  refine tl_puti (c := 12) (k9 := 36) rfl rfl rfl rfl ?_
  refine tl_aload_n rfl rfl ?_
  refine tl_aload_n rfl rfl ?_
  refine tl_geti (c := 12) (k9 := 36) rfl rfl rfl ?_
  rw [hs_s]
  refine tl_bipush rfl rfl ?_
  refine tl_icmp_le (tgt := 187) rfl rfl ⟨by omega, by omega⟩ ⟨by omega, by omega⟩ (fun c1 => ?_) (fun c1 => ?_)
  · skip
    show jT _ _ 187 _ _ _ _
    refine tl_iconst rfl ?_
    refine tl_iconst rfl ?_
    refine tl_v2v (c9 := 12) (r_fails l _ (TB V) (rN V) (hd3 (TB V) (rN V)).2 0 (k4.pt (by decide)) _ 5 (by omega) (by omega) (by omega)) rfl rfl rfl rfl rfl (Nat.le_of_ble_eq_true rfl) (fun h4b p4b => ?_)
    obtain ⟨k4b, f4b⟩ := p4b
    show jT _ _ 192 _ _ _ _
    -- leaf 0 at 192
    rw [if_neg (by omega)] at k4b
    refine tl_aload_n rfl rfl ?_
    refine tl_aload_n rfl rfl ?_
    refine tl_v0i (c9 := 12) (r_nextNum l h4b (TB V) (rN V) (hd3 (TB V) (rN V)).2 0 k4b) rfl rfl rfl rfl rfl (Nat.le_of_ble_eq_true rfl) (fun z5 h5 p5 => ?_)
    show jT _ _ 197 _ _ _ _
    -- leaf 0 at 197
    obtain ⟨e5, k5, f5⟩ := p5
    have zb5 := rnR_b hB hdb3 ⟨Int.le_refl 0, by decide⟩
    by_cases x5 : (hd4 (TB V) (rN V)).1 < 0
    · skip
      have e3 := (rnR_e hB hdb3).2 x5
      rw [e3] at k5
      rw [← e5] at zb5
      have er : rdU V fo R = 3 := by
        have eh : hdF (TB V) (rN V) fo R = 3 := by unfold hdF; rw [if_neg x1, if_neg (by omega), if_neg x2, if_neg x3, if_neg x4, if_neg (by omega), if_pos (Or.inl x5)]
        unfold rdU; rw [eh, if_pos (by decide)]
      exact r_t197 l h5 (TB V) (rN V) _ 3 k5 (by decide) sz fo none (hd3 (TB V) (rN V)).1 (by rw [f5.2 36 (by decide) (by decide), f4b.2 36 (by decide) (by decide), hs_s]) (by omega) z5 zb5 P (fun m2 a => hP 3 m2 ⟨er.symm, fun w => by rw [er] at w; exact absurd w (by decide), (((f4.t9.trans (FT9.put (by decide))).trans f4b.t9).trans f5.t9).trans a⟩)
    have e3 := (rnR_e hB hdb3).1 (Int.not_lt.mp x5)
    rw [e3] at e5 k5
    change z5 = (hd4 (TB V) (rN V)).1 at e5
    change RDR h5 (TB V) (rN V) (hd4 (TB V) (rN V)).2 0 at k5
    subst e5
    clear e3
    refine tl_puti (c := 12) (k9 := 37) rfl rfl rfl rfl ?_
    refine tl_aload_n rfl rfl ?_
    refine tl_aload_n rfl rfl ?_
    refine tl_v0i (c9 := 12) (r_nextNum l _ (TB V) (rN V) (hd4 (TB V) (rN V)).2 0 (k5.pt (by decide))) rfl rfl rfl rfl rfl (Nat.le_of_ble_eq_true rfl) (fun z6 h6 p6 => ?_)
    show jT _ _ 205 _ _ _ _
    -- leaf 0 at 205
    obtain ⟨e6, k6, f6⟩ := p6
    have zb6 := rnR_b hB hdb4 ⟨Int.le_refl 0, by decide⟩
    by_cases x6 : (hd5 (TB V) (rN V)).1 < 0
    · skip
      have e3 := (rnR_e hB hdb4).2 x6
      rw [e3] at k6
      rw [← e6] at zb6
      have er : rdU V fo R = 3 := by
        have eh : hdF (TB V) (rN V) fo R = 3 := by unfold hdF; rw [if_neg x1, if_neg (by omega), if_neg x2, if_neg x3, if_neg x4, if_neg (by omega), if_pos (Or.inr x6)]
        unfold rdU; rw [eh, if_pos (by decide)]
      exact r_t205 l h6 (TB V) (rN V) _ 3 k6 (by decide) sz fo none (hd3 (TB V) (rN V)).1 (by rw [f6.2 36 (by decide) (by decide), hs_k (by decide), f5.2 36 (by decide) (by decide), f4b.2 36 (by decide) (by decide), hs_s]) (by omega) z6 zb6 P (fun m2 a => hP 3 m2 ⟨er.symm, fun w => by rw [er] at w; exact absurd w (by decide), ((((f4.t9.trans (FT9.put (by decide))).trans f4b.t9).trans (f5.t9.trans (FT9.put (by decide)))).trans f6.t9).trans a⟩)
    have e3 := (rnR_e hB hdb4).1 (Int.not_lt.mp x6)
    rw [e3] at e6 k6
    change z6 = (hd5 (TB V) (rN V)).1 at e6
    change RDR h6 (TB V) (rN V) (hd5 (TB V) (rN V)).2 0 at k6
    subst e6
    clear e3
    have npe : ((rNp V : Nat) : Int) = (hd5 (TB V) (rN V)).1 := by unfold rNp; omega
    rw [← npe]
    refine tl_v1v (c9 := 12) (r_readParts l h6 (TB V) (rN V) (hd5 (TB V) (rN V)).2 (rNp V) (rOs V) (rNs V) hB (by omega) nN ⟨by show 0 ≤ (hd1 (TB V) (rN V)).1; omega, by show (hd1 (TB V) (rN V)).1 ≤ 64; omega⟩ ⟨by show 0 ≤ (hd3 (TB V) (rN V)).1; omega, by show (hd3 (TB V) (rN V)).1 ≤ 64; omega⟩ (by omega) k6 ⟨by rw [f6.2 34 (by decide) (by decide), hs_k (by decide), f5.2 34 (by decide) (by decide), f4b.2 34 (by decide) (by decide), hs_k (by decide), f4.2 34 (by decide) (by decide)]; exact h34, by rw [f6.2 36 (by decide) (by decide), hs_k (by decide), f5.2 36 (by decide) (by decide), f4b.2 36 (by decide) (by decide), hs_s]; rfl⟩) rfl rfl rfl rfl rfl (Nat.le_of_ble_eq_true rfl) (fun h7 p7 => ?_)
    show jT _ _ 208 _ _ _ _
    -- leaf 0 at 208
    obtain ⟨⟨p7, k7, e7⟩, g7, f7⟩ := p7
    change RDR h7 (TB V) (rN V) p7 (rPf V) at k7
    change rPf V = 0 → _ at e7
    change rPf V = 0 → _ ∧ PTR h7 (rS V) (rNp V) at g7
    have eh : hdF (TB V) (rN V) fo R = 0 := by unfold hdF; rw [if_neg x1, if_neg (by omega), if_neg x2, if_neg x3, if_neg x4, if_neg (by omega), if_neg (by omega)]
    have k78 := k7.2.2.2.2.2.2.2
    have fr7 : FT9 mem h7 := ((((f4.t9.trans (FT9.put (by decide))).trans f4b.t9).trans (f5.t9.trans (FT9.put (by decide)))).trans f6.t9).trans f7.t9
    by_cases z3 : rPf V = 0
    rotate_left
    · have er : rdU V fo R = rPf V := by unfold rdU; rw [eh, if_neg (fun w => w rfl), if_pos z3]
      exact r_t208 l h7 (TB V) (rN V) p7 (rPf V) k7 z3 sz fo none P (fun m2 a => hP _ m2 ⟨er.symm, fun w => absurd (er ▸ w) z3, fr7.trans a⟩)
    have er : rdU V fo R = rdT V fo R := by unfold rdU; rw [eh, if_neg (fun w => w rfl), if_neg (fun w => w z3)]
    rw [z3] at k7
    have e77 := e7 z3
    rw [show p7 = (rS V 0 1).toNat by have : (p7 : Int) = rS V 0 1 := e77; omega] at k7
    refine tl_aload_n rfl rfl ?_
    refine tl_geti (c := 12) (k9 := 33) rfl rfl rfl ?_
    rw [k7.2.2.1]
    refine tl_if_eq (tgt := 220) rfl rfl ⟨by omega, by omega⟩ (fun c1 => ?_) (fun c1 => ?_)
    · skip
      show jT _ _ 220 _ _ _ _
      -- leaf 0 at 220
      have fq : ∀ q, q ≠ 32 → q ≠ 33 → q ≠ 36 → q ≠ 37 → q ≠ 38 → h7 388 q = mem 388 q := fun q a1 a2 a3 a4 a5 => by rw [f7.2 q a1 a2 a5, f6.2 q a1 a2, hs_k a4, f5.2 q a1 a2, f4b.2 q a1 a2, hs_k a3, f4.2 q a1 a2]
      exact r_t220 l h7 V hV v3 fo R (by rw [fr7.1 390 (by decide) (by omega)]; exact e390) ok eh z3 k7 ⟨by rw [fq 34 (by decide) (by decide) (by decide) (by decide) (by decide)]; exact h34, by rw [fq 35 (by decide) (by decide) (by decide) (by decide) (by decide)]; exact h35, by rw [f7.2 36 (by decide) (by decide) (by decide), f6.2 36 (by decide) (by decide), hs_k (by decide), f5.2 36 (by decide) (by decide), f4b.2 36 (by decide) (by decide), hs_s]; rfl, by rw [f7.2 37 (by decide) (by decide) (by decide), f6.2 37 (by decide) (by decide), hs_s]; rfl, (g7 z3).1⟩ (g7 z3).2 sz none P (fun z m2 hz => hP z m2 ⟨hz.1.trans er.symm, fun w => hz.2.1 (er ▸ w), fr7.trans hz.2.2⟩)
    · show jT _ _ 215 _ _ _ _
      exfalso; omega
  · show jT _ _ 183 _ _ _ _
    refine tl_iconst rfl ?_
    refine tl_goto (tgt := 188) rfl rfl ?_
    refine tl_iconst rfl ?_
    refine tl_v2v (c9 := 12) (r_fails l _ (TB V) (rN V) (hd3 (TB V) (rN V)).2 0 (k4.pt (by decide)) _ 5 (by omega) (by omega) (by omega)) rfl rfl rfl rfl rfl (Nat.le_of_ble_eq_true rfl) (fun h4b p4b => ?_)
    obtain ⟨k4b, f4b⟩ := p4b
    show jT _ _ 192 _ _ _ _
    -- leaf 1 at 192
    rw [if_pos (by omega)] at k4b
    have er : rdU V fo R = 5 := by
      have eh : hdF (TB V) (rN V) fo R = 5 := by unfold hdF; rw [if_neg x1, if_neg (by omega), if_neg x2, if_neg x3, if_neg x4, if_pos (by omega)]
      unfold rdU; rw [eh, if_pos (by decide)]
    exact r_t192 l h4b (TB V) (rN V) _ 5 k4b (by decide) sz fo none (hd3 (TB V) (rN V)).1 (by rw [f4b.2 36 (by decide) (by decide), hs_s]) (by omega) P (fun m2 a => hP 5 m2 ⟨er.symm, fun w => by rw [er] at w; exact absurd w (by decide), ((f4.t9.trans (FT9.put (by decide))).trans f4b.t9).trans a⟩)
set_option maxRecDepth 20000 in
set_option maxHeartbeats 1000000 in
theorem r_t92 (l : Launch) (mem : jH) (V : List Int) (hV : LB V) (v3 : V.length ≤ 300) (fo : Bool) (R : Nat → Int) (e390 : mem 390 = R) (ok : Rok R) (k9 : RDR mem (TB V) (rN V) 0 0) (sz : Int) (P : Option Value → jH → Prop) (hP : ∀ z m2, (z = rdU V fo R ∧ (rdU V fo R = 0 → RDRP m2 V ∧ (zb fo = 1 → ∀ q, q < (rNs V).toNat → m2 413 q = coV (rG V) R q)) ∧ FT9 mem m2) → P (some (.int (jI z))) m2) : jT l 289 92 [some (.ref 388), some (.int (jI (sz))), some (.int (jI (zb fo))), none] [] mem P := by
  have hB : BB (TB V) (rN V) := TB_b hV (by unfold rN; omega)
  have fb9 := zb_b fo
  have nN : rN V ≤ 298 := by unfold rN; omega
  have hdb := hd_b hB
  have o5 := ok.o5
  have hdb1 : (hd1 (TB V) (rN V)).2 ≤ rN V := hdb.1.2.1
  have hdb2 : (hd2 (TB V) (rN V)).2 ≤ rN V := hdb.2.1.2.1
  have hdb3 : (hd3 (TB V) (rN V)).2 ≤ rN V := hdb.2.2.1.2.1
  have hdb4 : (hd4 (TB V) (rN V)).2 ≤ rN V := hdb.2.2.2.1.2.1
  have hdb5 : (hd5 (TB V) (rN V)).2 ≤ rN V := hdb.2.2.2.2.2.1
  have hv1 := hdb.1.1
  have hv2 := hdb.2.1.1
  have hv3 := hdb.2.2.1.1
  have hv4 := hdb.2.2.2.1.1
  have hv5 := hdb.2.2.2.2.1
  clear hdb
  refine tl_aload_n rfl rfl ?_
  refine tl_aload_n rfl rfl ?_
  refine tl_v0i (c9 := 12) (r_nextNum l mem (TB V) (rN V) 0 0 k9) rfl rfl rfl rfl rfl (Nat.le_of_ble_eq_true rfl) (fun z1 h1 p1 => ?_)
  show jT _ _ 97 _ _ _ _
  -- leaf 0 at 97
  obtain ⟨e1, k1, f1⟩ := p1
  have zb1 := rnR_b hB (Nat.zero_le (rN V)) ⟨Int.le_refl 0, by decide⟩
  by_cases x1 : (hd1 (TB V) (rN V)).1 < 0
  · skip
    have e3 := (rnR_e hB (Nat.zero_le (rN V))).2 x1
    rw [e3] at k1
    rw [← e1] at zb1
    have er : rdU V fo R = 3 := by
      have eh : hdF (TB V) (rN V) fo R = 3 := by unfold hdF; rw [if_pos x1]
      unfold rdU; rw [eh, if_pos (by decide)]
    exact r_t97 l h1 (TB V) (rN V) _ 3 k1 (by decide) sz fo none R (by rw [f1.1 390 (by decide)]; exact e390) ok z1 zb1 P (fun m2 a => hP 3 m2 ⟨er.symm, fun w => by rw [er] at w; exact absurd w (by decide), f1.t9.trans a⟩)
  have e3 := (rnR_e hB (Nat.zero_le (rN V))).1 (Int.not_lt.mp x1)
  rw [e3] at e1 k1
  change z1 = (hd1 (TB V) (rN V)).1 at e1
  change RDR h1 (TB V) (rN V) (hd1 (TB V) (rN V)).2 0 at k1
  subst e1
  clear e3
  refine tl_puti (c := 12) (k9 := 34) rfl rfl rfl rfl ?_
  refine tl_aload_n rfl rfl ?_
  refine tl_aload_n rfl rfl ?_
  refine tl_geti (c := 12) (k9 := 34) rfl rfl rfl ?_
  rw [hs_s]
  refine tl_bipush rfl rfl ?_
  refine tl_icmp_le (tgt := 114) rfl rfl ⟨by omega, by omega⟩ ⟨by omega, by omega⟩ (fun c1 => ?_) (fun c1 => ?_)
  · skip
    show jT _ _ 114 _ _ _ _
    refine tl_iconst rfl ?_
    refine tl_iconst rfl ?_
    refine tl_v2v (c9 := 12) (r_fails l _ (TB V) (rN V) (hd1 (TB V) (rN V)).2 0 (k1.pt (by decide)) _ 5 (by omega) (by omega) (by omega)) rfl rfl rfl rfl rfl (Nat.le_of_ble_eq_true rfl) (fun h1b p1b => ?_)
    obtain ⟨k1b, f1b⟩ := p1b
    show jT _ _ 119 _ _ _ _
    -- leaf 0 at 119
    rw [if_neg (by omega)] at k1b
    refine tl_aload_n rfl rfl ?_
    refine tl_aload_n rfl rfl ?_
    refine tl_v0i (c9 := 12) (r_nextNum l h1b (TB V) (rN V) (hd1 (TB V) (rN V)).2 0 k1b) rfl rfl rfl rfl rfl (Nat.le_of_ble_eq_true rfl) (fun z2 h2 p2 => ?_)
    show jT _ _ 124 _ _ _ _
    -- leaf 0 at 124
    obtain ⟨e2, k2, f2⟩ := p2
    have zb2 := rnR_b hB hdb1 ⟨Int.le_refl 0, by decide⟩
    by_cases x2 : (hd2 (TB V) (rN V)).1 < 0
    · skip
      have e3 := (rnR_e hB hdb1).2 x2
      rw [e3] at k2
      rw [← e2] at zb2
      have er : rdU V fo R = 3 := by
        have eh : hdF (TB V) (rN V) fo R = 3 := by unfold hdF; rw [if_neg x1, if_neg (by omega), if_pos x2]
        unfold rdU; rw [eh, if_pos (by decide)]
      exact r_t124 l h2 (TB V) (rN V) _ 3 k2 (by decide) sz fo none (hd1 (TB V) (rN V)).1 (by rw [f2.2 34 (by decide) (by decide), f1b.2 34 (by decide) (by decide), hs_s]) (by omega) R (by rw [f2.1 390 (by decide), f1b.1 390 (by decide), hs_O (by decide), f1.1 390 (by decide)]; exact e390) ok z2 zb2 P (fun m2 a => hP 3 m2 ⟨er.symm, fun w => by rw [er] at w; exact absurd w (by decide), (((f1.t9.trans (FT9.put (by decide))).trans f1b.t9).trans f2.t9).trans a⟩)
    have e3 := (rnR_e hB hdb1).1 (Int.not_lt.mp x2)
    rw [e3] at e2 k2
    change z2 = (hd2 (TB V) (rN V)).1 at e2
    change RDR h2 (TB V) (rN V) (hd2 (TB V) (rN V)).2 0 at k2
    subst e2
    clear e3
    refine tl_puti (c := 12) (k9 := 35) rfl rfl rfl rfl ?_
    refine tl_aload_n rfl rfl ?_
    refine tl_iload_n rfl rfl ?_
    refine tl_if_eq (tgt := 160) rfl rfl ⟨by omega, by omega⟩ (fun c1 => ?_) (fun c1 => ?_)
    · skip
      refine tl_iconst rfl ?_
      refine tl_iconst rfl ?_
      show jT _ _ 162 _ _ _ _
      refine tl_v2v (c9 := 12) (r_fails l (hs h2 388 35 (hd2 (TB V) (rN V)).1) (TB V) (rN V) (hd2 (TB V) (rN V)).2 0 (k2.pt (by decide)) _ 4 (by omega) (by omega) (by omega)) rfl rfl rfl rfl rfl (Nat.le_of_ble_eq_true rfl) (fun h3 p3 => ?_)
      obtain ⟨k3, f3⟩ := p3
      show jT _ _ 165 _ _ _ _
      -- leaf 0 at 165
      rw [if_neg (by omega)] at k3
      have x3 : ¬ (zb fo = 1 ∧ ((hd1 (TB V) (rN V)).1 ≠ R 5 ∨ (hd2 (TB V) (rN V)).1 ≠ ckO R)) := by omega
      exact r_t165g l h3 V hV v3 fo R (by rw [f3.1 390 (by decide), hs_O (by decide), f2.1 390 (by decide), f1b.1 390 (by decide), hs_O (by decide), f1.1 390 (by decide)]; exact e390) ok k3 x1 (by omega) x2 x3 (by rw [f3.2 34 (by decide) (by decide), hs_k (by decide), f2.2 34 (by decide) (by decide), f1b.2 34 (by decide) (by decide), hs_s]) (by rw [f3.2 35 (by decide) (by decide), hs_s]) sz P (fun z m2 hz => hP z m2 ⟨hz.1, hz.2.1, (((((f1.t9.trans (FT9.put (by decide))).trans f1b.t9).trans f2.t9).trans (FT9.put (by decide))).trans f3.t9).trans hz.2.2⟩)
    · show jT _ _ 132 _ _ _ _
      refine tl_aload_n rfl rfl ?_
      refine tl_geti (c := 12) (k9 := 34) rfl rfl rfl ?_
      rw [hs_k (by decide), f2.2 34 (by decide) (by decide), f1b.2 34 (by decide) (by decide), hs_s]
      refine tl_aload_n rfl rfl ?_
      refine tl_iconst rfl ?_
      refine tl_v1i (c9 := 12) (c_sizeOf l _ 0 (by decide) (by decide)) rfl rfl rfl rfl rfl (Nat.le_of_ble_eq_true rfl) (fun z6 h6 p6 => ?_)
      obtain ⟨q6, rfl⟩ := p6
      have q6 := q6.symm
      subst q6
      rw [show (5 + 65 * 0 : Int).toNat = 5 from rfl]
      rw [hs_o (by decide), f2.1 390 (by decide), f1b.1 390 (by decide), hs_O (by decide), f1.1 390 (by decide), e390]
      refine tl_icmp_ne (tgt := 156) rfl rfl ⟨by omega, by omega⟩ ⟨by omega, by omega⟩ (fun c2 => ?_) (fun c2 => ?_)
      · skip
        show jT _ _ 156 _ _ _ _
        refine tl_iconst rfl ?_
        refine tl_goto (tgt := 161) rfl rfl ?_
        refine tl_iconst rfl ?_
        refine tl_v2v (c9 := 12) (r_fails l (hs h2 388 35 (hd2 (TB V) (rN V)).1) (TB V) (rN V) (hd2 (TB V) (rN V)).2 0 (k2.pt (by decide)) _ 4 (by omega) (by omega) (by omega)) rfl rfl rfl rfl rfl (Nat.le_of_ble_eq_true rfl) (fun h3 p3 => ?_)
        obtain ⟨k3, f3⟩ := p3
        show jT _ _ 165 _ _ _ _
        -- leaf 1 at 165
        rw [if_pos (by omega)] at k3
        have er : rdU V fo R = 4 := by
          have eh : hdF (TB V) (rN V) fo R = 4 := by unfold hdF; rw [if_neg x1, if_neg (by omega), if_neg x2, if_pos (by omega)]
          unfold rdU; rw [eh, if_pos (by decide)]
        exact r_t165 l h3 (TB V) (rN V) _ 4 k3 (by decide) sz fo none  P (fun m2 a => hP 4 m2 ⟨er.symm, fun w => by rw [er] at w; exact absurd w (by decide), (((((f1.t9.trans (FT9.put (by decide))).trans f1b.t9).trans f2.t9).trans (FT9.put (by decide))).trans f3.t9).trans a⟩)
      · show jT _ _ 144 _ _ _ _
        refine tl_aload_n rfl rfl ?_
        refine tl_geti (c := 12) (k9 := 35) rfl rfl rfl ?_
        rw [hs_s]
        refine tl_aload_n rfl rfl ?_
        show jT _ _ 149 _ _ _ _
        refine tl_iconst rfl ?_
        refine tl_v1i (c9 := 12) (r_fckO l (hs h2 388 35 (hd2 (TB V) (rN V)).1) R (by rw [hs_O (by decide), f2.1 390 (by decide), f1b.1 390 (by decide), hs_O (by decide), f1.1 390 (by decide)]; exact e390) ok) rfl rfl rfl rfl rfl (Nat.le_of_ble_eq_true rfl) (fun zc hc pc => ?_)
        obtain ⟨qc, ec⟩ := pc
        have qc := qc.symm
        subst qc
        subst ec
        have cb := ckO_b (R := R)
        refine tl_icmp_eq (tgt := 160) rfl rfl ⟨by omega, by omega⟩ ⟨by omega, by omega⟩ (fun c3 => ?_) (fun c3 => ?_)
        · skip
          refine tl_iconst rfl ?_
          refine tl_iconst rfl ?_
          refine tl_v2v (c9 := 12) (r_fails l (hs h2 388 35 (hd2 (TB V) (rN V)).1) (TB V) (rN V) (hd2 (TB V) (rN V)).2 0 (k2.pt (by decide)) _ 4 (by omega) (by omega) (by omega)) rfl rfl rfl rfl rfl (Nat.le_of_ble_eq_true rfl) (fun h3 p3 => ?_)
          obtain ⟨k3, f3⟩ := p3
          show jT _ _ 165 _ _ _ _
          -- leaf 2 at 165
          rw [if_neg (by omega)] at k3
          have x3 : ¬ (zb fo = 1 ∧ ((hd1 (TB V) (rN V)).1 ≠ R 5 ∨ (hd2 (TB V) (rN V)).1 ≠ ckO R)) := by omega
          exact r_t165g l h3 V hV v3 fo R (by rw [f3.1 390 (by decide), hs_O (by decide), f2.1 390 (by decide), f1b.1 390 (by decide), hs_O (by decide), f1.1 390 (by decide)]; exact e390) ok k3 x1 (by omega) x2 x3 (by rw [f3.2 34 (by decide) (by decide), hs_k (by decide), f2.2 34 (by decide) (by decide), f1b.2 34 (by decide) (by decide), hs_s]) (by rw [f3.2 35 (by decide) (by decide), hs_s]) sz P (fun z m2 hz => hP z m2 ⟨hz.1, hz.2.1, (((((f1.t9.trans (FT9.put (by decide))).trans f1b.t9).trans f2.t9).trans (FT9.put (by decide))).trans f3.t9).trans hz.2.2⟩)
        · show jT _ _ 156 _ _ _ _
          refine tl_iconst rfl ?_
          show jT _ _ 157 _ _ _ _
          refine tl_goto (tgt := 161) rfl rfl ?_
          refine tl_iconst rfl ?_
          refine tl_v2v (c9 := 12) (r_fails l (hs h2 388 35 (hd2 (TB V) (rN V)).1) (TB V) (rN V) (hd2 (TB V) (rN V)).2 0 (k2.pt (by decide)) _ 4 (by omega) (by omega) (by omega)) rfl rfl rfl rfl rfl (Nat.le_of_ble_eq_true rfl) (fun h3 p3 => ?_)
          obtain ⟨k3, f3⟩ := p3
          show jT _ _ 165 _ _ _ _
          -- leaf 3 at 165
          rw [if_pos (by omega)] at k3
          have er : rdU V fo R = 4 := by
            have eh : hdF (TB V) (rN V) fo R = 4 := by unfold hdF; rw [if_neg x1, if_neg (by omega), if_neg x2, if_pos (by omega)]
            unfold rdU; rw [eh, if_pos (by decide)]
          exact r_t165 l h3 (TB V) (rN V) _ 4 k3 (by decide) sz fo none  P (fun m2 a => hP 4 m2 ⟨er.symm, fun w => by rw [er] at w; exact absurd w (by decide), (((((f1.t9.trans (FT9.put (by decide))).trans f1b.t9).trans f2.t9).trans (FT9.put (by decide))).trans f3.t9).trans a⟩)
  · show jT _ _ 110 _ _ _ _
    refine tl_iconst rfl ?_
    refine tl_goto (tgt := 115) rfl rfl ?_
    refine tl_iconst rfl ?_
    refine tl_v2v (c9 := 12) (r_fails l _ (TB V) (rN V) (hd1 (TB V) (rN V)).2 0 (k1.pt (by decide)) _ 5 (by omega) (by omega) (by omega)) rfl rfl rfl rfl rfl (Nat.le_of_ble_eq_true rfl) (fun h1b p1b => ?_)
    obtain ⟨k1b, f1b⟩ := p1b
    show jT _ _ 119 _ _ _ _
    -- leaf 1 at 119
    rw [if_pos (by omega)] at k1b
    have er : rdU V fo R = 5 := by
      have eh : hdF (TB V) (rN V) fo R = 5 := by unfold hdF; rw [if_neg x1, if_pos (by omega)]
      unfold rdU; rw [eh, if_pos (by decide)]
    exact r_t119 l h1b (TB V) (rN V) _ 5 k1b (by decide) sz fo none (hd1 (TB V) (rN V)).1 (by rw [f1b.2 34 (by decide) (by decide), hs_s]) (by omega) R (by rw [f1b.1 390 (by decide), hs_O (by decide), f1.1 390 (by decide)]; exact e390) ok P (fun m2 a => hP 5 m2 ⟨er.symm, fun w => by rw [er] at w; exact absurd w (by decide), ((f1.t9.trans (FT9.put (by decide))).trans f1b.t9).trans a⟩)
