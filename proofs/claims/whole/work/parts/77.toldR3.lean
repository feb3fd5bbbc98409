/-! a patch read as a whole, of the reference: behind its parts -/
def rdT (V : List Int) (fo : Bool) (R : Nat → Int) : Int := if (r1 V).1 ≠ 0 then (r1 V).1 else if (r2 V).1 ≠ 0 then (r2 V).1 else if (r2 V).2.1 < rN V then 6 else if zb fo = 1 ∧ ckL (coL (rG V) R (rNs V).toNat) ≠ rNc V then 7 else 0
def RDRP (h : jH) (V : List Int) : Prop := (h 388 34 = rOs V ∧ h 388 35 = rOc V ∧ h 388 36 = rNs V ∧ h 388 37 = rNc V ∧ h 388 38 = (rNp V : Int)) ∧ PTR h (rS V) (rNp V) ∧ OGR h (rG V) (rNs V).toNat ∧ h 412 0 = (rn (TB V) (rN V) (rS V 0 1).toNat).1 ∧ h 412 1 = (rn (TB V) (rN V) (r1 V).2.1).1
theorem RDRP.of {h h' : jH} {V : List Int} (k : RDRP h V) (e : ∀ q, (q = 25 ∨ (34 ≤ q ∧ q ≤ 38)) → h' 388 q = h 388 q) (e2 : ∀ x, (x = 403 ∨ x = 404 ∨ (408 ≤ x ∧ x ≤ 412)) → h' x = h x) : RDRP h' V := by
  obtain ⟨⟨a1, a2, a3, a4, a5⟩, b, c, d1, d2⟩ := k
  refine ⟨⟨by rw [e 34 (by omega)]; exact a1, by rw [e 35 (by omega)]; exact a2, by rw [e 36 (by omega)]; exact a3, by rw [e 37 (by omega)]; exact a4, by rw [e 38 (by omega)]; exact a5⟩, b.of (fun x x1 x2 => e2 x (by omega)), ⟨by rw [e 25 (by omega)]; exact c.1, fun i hi => by rw [e2 403 (by omega), e2 404 (by omega)]; exact c.2 i hi⟩, by rw [e2 412 (by omega)]; exact d1, by rw [e2 412 (by omega)]; exact d2⟩
theorem coL_gd {g : jH} {R : Nat → Int} : ∀ n i, i < n → (coL g R n).getD i 0 = coV g R i := by
  intro n
  induction n with
  | zero => intro i hi; omega
  | succ n ih =>
    intro i hi
    rw [coL]
    by_cases c : i < n
    · rw [gd_l (by rw [coL_len]; exact c)]; exact ih i c
    · have e : i = n := by omega
      subst e
      rw [gd_r (by rw [coL_len]; exact Nat.le_refl _), coL_len, Nat.sub_self]; rfl
theorem ckL_co {g : jH} {R : Nat → Int} {n : Nat} : ckF (coV g R) n = ckL (coL g R n) := by
  rw [ckL, coL_len]
  exact ckF_congr n (fun i hi => (coL_gd n i hi).symm)
set_option maxRecDepth 20000 in
set_option maxHeartbeats 1000000 in
theorem r_t292 (l : Launch) (mem : jH) (f : Int) (k7 : mem 388 33 = f) (k8 : 0 ≤ f ∧ f ≤ 7) (f9 : f ≠ 0) (sz : Int) (fo : Bool) (n3 : Int) (P : Option Value → jH → Prop) (hP : P (some (.int (jI f))) mem) : jT l 289 292 [some (.ref 388), some (.int (jI (sz))), some (.int (jI (zb fo))), some (.int (jI (n3)))] [] mem P := by
  refine tl_aload_n rfl rfl ?_
  refine tl_geti (c := 12) (k9 := 33) rfl rfl rfl ?_
  rw [k7]
  refine tl_if_ne (tgt := 329) rfl rfl ⟨by omega, by omega⟩ (fun c1 => ?_) (fun c1 => ?_)
  · skip
    refine tl_aload_n rfl rfl ?_
    refine tl_geti (c := 12) (k9 := 33) rfl rfl rfl ?_
    rw [k7]
    refine tl_iret rfl ?_
    -- leaf 0 at 333
    exact hP
  · show jT _ _ 299 _ _ _ _
    exfalso; omega
set_option maxRecDepth 20000 in
set_option maxHeartbeats 1000000 in
theorem r_t258 (l : Launch) (mem : jH) (f : Int) (k7 : mem 388 33 = f) (k8 : 0 ≤ f ∧ f ≤ 7) (f9 : f ≠ 0) (sz : Int) (fo : Bool) (n3 : Int) (P : Option Value → jH → Prop) (hP : P (some (.int (jI f))) mem) : jT l 289 258 [some (.ref 388), some (.int (jI (sz))), some (.int (jI (zb fo))), some (.int (jI (n3)))] [] mem P := by
  refine tl_aload_n rfl rfl ?_
  refine tl_geti (c := 12) (k9 := 33) rfl rfl rfl ?_
  rw [k7]
  refine tl_if_ne (tgt := 292) rfl rfl ⟨by omega, by omega⟩ (fun c1 => ?_) (fun c1 => ?_)
  · skip
    show jT _ _ 292 _ _ _ _
    -- leaf 0 at 292
    exact r_t292 l mem f k7 k8 f9 sz fo n3 P hP
  · show jT _ _ 265 _ _ _ _
    exfalso; omega
set_option maxRecDepth 20000 in
set_option maxHeartbeats 1000000 in
theorem r_t292g (l : Launch) (mem : jH) (V : List Int) (hV : LB V) (v3 : V.length ≤ 300) (fo : Bool) (R : Nat → Int) (e390 : mem 390 = R) (ok : Rok R) (z2 : hdF (TB V) (rN V) fo R = 0) (z3 : rPf V = 0) (rd9 : RDRP mem V) (z5 : (r1 V).1 = 0) (z7 : (r2 V).1 = 0) (z8 : ¬ (r2 V).2.1 < rN V) (k7 : mem 388 33 = 0) (sz n3 : Int) (P : Option Value → jH → Prop) (hP : ∀ z m2, (z = rdT V fo R ∧ (rdT V fo R = 0 → RDRP m2 V ∧ (zb fo = 1 → ∀ q, q < (rNs V).toNat → m2 413 q = coV (rG V) R q)) ∧ FT9 mem m2) → P (some (.int (jI z))) m2) : jT l 289 292 [some (.ref 388), some (.int (jI (sz))), some (.int (jI (zb fo))), some (.int (jI (n3)))] [] mem P := by
  have hB : BB (TB V) (rN V) := TB_b hV (by unfold rN; omega)
  have fb9 := zb_b fo
  have I0 := rd_I hV z2
  have P1 := rd_P hV v3 z2 z3
  have I := P1.1
  have nN : rN V ≤ 298 := by unfold rN; omega
  obtain ⟨i1, i2, i3, i4, i5, i6, i7⟩ := I0
  have bqn := I.bq'.2.1
  have tqn := I.bq'.2.2.1
  have P12 := P1.2.1
  have P13 := P1.2.2.1
  have P14 := P1.2.2.2.1
  have P15 := P1.2.2.2.2.1
  have G := rd_G hV v3 z2 z3 z5 z7
  have sg := G.2.2.2.1
  refine tl_aload_n rfl rfl ?_
  refine tl_geti (c := 12) (k9 := 33) rfl rfl rfl ?_
  rw [k7]
  refine tl_if_ne (tgt := 329) rfl rfl ⟨by omega, by omega⟩ (fun c1 => ?_) (fun c1 => ?_)
  · skip
    exfalso; omega
  · show jT _ _ 299 _ _ _ _
    refine tl_iload_n rfl rfl ?_
    refine tl_if_eq (tgt := 329) rfl rfl ⟨by omega, by omega⟩ (fun c2 => ?_) (fun c2 => ?_)
    · skip
      have eo := zb0 c2
      refine tl_aload_n rfl rfl ?_
      show jT _ _ 330 _ _ _ _
      refine tl_geti (c := 12) (k9 := 33) rfl rfl rfl ?_
      first | rw [k7] | rw [hs_s]
      refine tl_iret rfl ?_
      -- leaf 0 at 333
      have eb := zb_f eo
      have er : rdT V fo R = 0 := by unfold rdT; rw [if_neg (fun w => w z5), if_neg (fun w => w z7), if_neg z8, if_neg (by omega)]
      exact hP _ _ ⟨er.symm, fun _ => ⟨rd9, fun w => by omega⟩, FT9.rfl'⟩
    · show jT _ _ 303 _ _ _ _
      have eo := zb1' c2
      refine tl_aload_n rfl rfl ?_
      refine tl_v0v (c9 := 12) (r_layComes l mem (rG V) (rNs V).toNat (by omega) rd9.2.2.1 R e390 ok (sg (zb_t eo))) rfl rfl rfl rfl rfl (Nat.le_of_ble_eq_true rfl) (fun h1 p1 => ?_)
      obtain ⟨g1, f1⟩ := p1
      have cb := ckF_b (coV (rG V) R) (rNs V).toNat
      refine tl_aload_n rfl rfl ?_
      refine tl_aload_n rfl rfl ?_
      refine tl_v0i (c9 := 12) (r_comesCheck l h1 (coV (rG V) R) (rNs V).toNat (by omega) (by omega) (by rw [f1 388 (by decide), rd9.2.2.1.1]) g1 (fun i hi => by rw [← coL_gd _ i hi]; exact (coL_B (sg (zb_t eo)) _ (Nat.le_refl _)).gd (by rw [coL_len]; exact hi))) rfl rfl rfl rfl rfl (Nat.le_of_ble_eq_true rfl) (fun zc hc pc => ?_)
      obtain ⟨qc, ec⟩ := pc
      have qc := qc.symm
      subst qc
      subst ec
      show jT _ _ 312 _ _ _ _
      refine tl_aload_n rfl rfl ?_
      refine tl_geti (c := 12) (k9 := 37) rfl rfl rfl ?_
      rw [f1 388 (by decide), rd9.1.2.2.2.1]
      refine tl_icmp_eq (tgt := 323) rfl rfl ⟨by omega, by omega⟩ ⟨by omega, by omega⟩ (fun c3 => ?_) (fun c3 => ?_)
      · skip
        refine tl_iconst rfl ?_
        refine tl_bipush rfl rfl ?_
        refine tl_v2v (c9 := 12) (r_fails2 l h1 0 (by rw [f1 388 (by decide)]; exact k7) (by omega) _ 7 (by omega) (by omega) (by omega)) rfl rfl rfl rfl rfl (Nat.le_of_ble_eq_true rfl) (fun h2 p2 => ?_)
        subst p2
        refine tl_aload_n rfl rfl ?_
        show jT _ _ 330 _ _ _ _
        refine tl_geti (c := 12) (k9 := 33) rfl rfl rfl ?_
        first | rw [k7] | rw [hs_s]
        refine tl_iret rfl ?_
        -- leaf 1 at 333
        have eb := zb_t eo
        rw [ckL_co] at c3
        have er : rdT V fo R = 0 := by unfold rdT; rw [if_neg (fun w => w z5), if_neg (fun w => w z7), if_neg z8, if_neg (fun w => w.2 c3)]
        rw [show (if (0 : Int) = 0 ∧ (0 : Int) = 1 then (7 : Int) else 0) = 0 from rfl]
        refine hP _ _ ⟨er.symm, fun w => ⟨?_, fun _ q hq => ?_⟩, ?_⟩
        · exact rd9.of (fun q hq => by rw [hs_k (by omega), f1 388 (by decide)]) (fun x hx => by rw [hs_O (by omega)]; exact f1 x (by omega))
        · rw [hs_O (by decide)]; exact g1 q hq
        · exact ⟨fun x a1 a2 => by rw [hs_O a1]; exact f1 x (by omega), fun q a1 a2 a3 => by rw [hs_k (by omega), f1 388 (by decide)]⟩
      · show jT _ _ 319 _ _ _ _
        refine tl_iconst rfl ?_
        refine tl_goto (tgt := 324) rfl rfl ?_
        refine tl_bipush rfl rfl ?_
        refine tl_v2v (c9 := 12) (r_fails2 l h1 0 (by rw [f1 388 (by decide)]; exact k7) (by omega) _ 7 (by omega) (by omega) (by omega)) rfl rfl rfl rfl rfl (Nat.le_of_ble_eq_true rfl) (fun h2 p2 => ?_)
        subst p2
        refine tl_aload_n rfl rfl ?_
        show jT _ _ 330 _ _ _ _
        refine tl_geti (c := 12) (k9 := 33) rfl rfl rfl ?_
        first | rw [k7] | rw [hs_s]
        refine tl_iret rfl ?_
        -- leaf 2 at 333
        have eb := zb_t eo
        rw [ckL_co] at c3
        have er : rdT V fo R = 7 := by unfold rdT; rw [if_neg (fun w => w z5), if_neg (fun w => w z7), if_neg z8, if_pos ⟨eb, c3⟩]
        rw [show (if (0 : Int) = 0 ∧ (1 : Int) = 1 then (7 : Int) else 0) = 7 from rfl]
        refine hP _ _ ⟨er.symm, fun w => ⟨?_, fun _ q hq => ?_⟩, ?_⟩
        · exact rd9.of (fun q hq => by rw [hs_k (by omega), f1 388 (by decide)]) (fun x hx => by rw [hs_O (by omega)]; exact f1 x (by omega))
        · rw [hs_O (by decide)]; exact g1 q hq
        · exact ⟨fun x a1 a2 => by rw [hs_O a1]; exact f1 x (by omega), fun q a1 a2 a3 => by rw [hs_k (by omega), f1 388 (by decide)]⟩
set_option maxRecDepth 20000 in
set_option maxHeartbeats 1000000 in
theorem r_t220 (l : Launch) (mem : jH) (V : List Int) (hV : LB V) (v3 : V.length ≤ 300) (fo : Bool) (R : Nat → Int) (e390 : mem 390 = R) (ok : Rok R) (z2 : hdF (TB V) (rN V) fo R = 0) (z3 : rPf V = 0) (k9 : RDR mem (TB V) (rN V) (rS V 0 1).toNat 0) (fd : (mem 388 34 = rOs V ∧ mem 388 35 = rOc V ∧ mem 388 36 = rNs V ∧ mem 388 37 = rNc V ∧ mem 388 38 = (rNp V : Int))) (kp : PTR mem (rS V) (rNp V)) (sz : Int) (y3 : Option Value) (P : Option Value → jH → Prop) (hP : ∀ z m2, (z = rdT V fo R ∧ (rdT V fo R = 0 → RDRP m2 V ∧ (zb fo = 1 → ∀ q, q < (rNs V).toNat → m2 413 q = coV (rG V) R q)) ∧ FT9 mem m2) → P (some (.int (jI z))) m2) : jT l 289 220 [some (.ref 388), some (.int (jI (sz))), some (.int (jI (zb fo))), y3] [] mem P := by
  have hB : BB (TB V) (rN V) := TB_b hV (by unfold rN; omega)
  have fb9 := zb_b fo
  have I0 := rd_I hV z2
  have P1 := rd_P hV v3 z2 z3
  have I := P1.1
  have nN : rN V ≤ 298 := by unfold rN; omega
  obtain ⟨i1, i2, i3, i4, i5, i6, i7⟩ := I0
  have bqn := I.bq'.2.1
  have tqn := I.bq'.2.2.1
  have P12 := P1.2.1
  have P13 := P1.2.2.1
  have P14 := P1.2.2.2.1
  have P15 := P1.2.2.2.2.1
  have gb : ∀ q, q < (rNs V).toNat → -1 ≤ (fun j => rg (rS V) [] [] (rNp V) 0 j) q ∧ (fun j => rg (rS V) [] [] (rNp V) 0 j) q ≤ 64 := fun q hq => by
    have a := (rg_v I LB.nil LB.nil (rNp V) (Nat.le_refl _) q (by omega)).1
    show -1 ≤ rg (rS V) [] [] (rNp V) 0 q ∧ rg (rS V) [] [] (rNp V) 0 q ≤ 64
    omega
  refine tl_aload_n rfl rfl ?_
  refine tl_v0v (c9 := 12) (r_layPlaces l mem (rS V) (rNp V) (rN V) _ (rOs V) (rNs V) I i3.2 i1.2 P13 P12 fd.2.2.2.2 fd.2.2.1 kp) rfl rfl rfl rfl rfl (Nat.le_of_ble_eq_true rfl) (fun h1 p1 => ?_)
  obtain ⟨g1, g2, g3, g4⟩ := p1
  have k1 : RDR h1 (TB V) (rN V) (rS V 0 1).toNat 0 := k9.at9 (fun q hq => g4 q (by omega)) (g3 407 (by decide) (by decide))
  refine tl_aload_n rfl rfl ?_
  refine tl_v0i (c9 := 12) (r_copiedSpots l h1 (rS V) (rNp V) (rN V) _ (rOs V) (rNs V) I i3.2 P13 (by rw [g4 38 (by decide)]; exact fd.2.2.2.2) (kp.of (fun x x1 x2 => g3 x (by omega) (by omega)))) rfl rfl rfl rfl rfl (Nat.le_of_ble_eq_true rfl) (fun z1 hc pc => ?_)
  obtain ⟨qc, ec⟩ := pc
  have qc := qc.symm
  subst qc
  rw [show z1 = (rC V : Int) by omega]
  refine tl_istore_n rfl (Nat.le_of_ble_eq_true rfl) rfl ?_
  refine tl_aload_n rfl rfl ?_
  show jT _ _ 230 _ _ _ _
  refine tl_iload_n rfl rfl ?_
  refine tl_iconst rfl ?_
  refine tl_v2v (c9 := 12) (r_readRow l h1 (TB V) (rN V) (rC V) (rS V 0 1).toNat 0 hB (by omega) (by decide) k1) rfl rfl rfl rfl rfl (Nat.le_of_ble_eq_true rfl) (fun h2 p2 => ?_)
  show jT _ _ 235 _ _ _ _
  -- leaf 0 at 235
  obtain ⟨⟨p2, k2, e2⟩, k2b, f2a, f2b, f2c⟩ := p2
  change RDR h2 (TB V) (rN V) p2 (r1 V).1 at k2
  change (r1 V).1 = 0 → p2 = (r1 V).2.1 at e2
  change (r1 V).1 = 0 → BL h2 (r1 V).2.2 ∧ _ at k2b
  have k28 := k2.2.2.2.2.2.2.2
  by_cases z5 : (r1 V).1 = 0
  rotate_left
  · have er : rdT V fo R = (r1 V).1 := by unfold rdT; rw [if_pos z5]
    refine tl_aload_n rfl rfl ?_
    refine tl_geti (c := 12) (k9 := 33) rfl rfl rfl ?_
    rw [k2.2.2.1]
    refine tl_if_ne (tgt := 258) rfl rfl ⟨by omega, by omega⟩ (fun c1 => ?_) (fun c1 => ?_)
    · skip
      show jT _ _ 258 _ _ _ _
      -- leaf 0 at 258
      exact r_t258 l h2 (r1 V).1 k2.2.2.1 k2.2.2.2.2.2.2.2 z5 sz fo _ P (hP _ _ ⟨er.symm, fun w => absurd (er ▸ w) z5, fun x a1 a2 => by rw [f2a x a1 (by omega) (by omega), g3 x a1 (by omega)], fun q a1 a2 a3 => by rw [f2b q a2 (by omega) (by omega), g4 q a1]⟩)
    · show jT _ _ 242 _ _ _ _
      exfalso; omega
  rw [z5, e2 z5] at k2
  refine tl_aload_n rfl rfl ?_
  refine tl_geti (c := 12) (k9 := 33) rfl rfl rfl ?_
  rw [k2.2.2.1]
  refine tl_if_ne (tgt := 258) rfl rfl ⟨by omega, by omega⟩ (fun c1 => ?_) (fun c1 => ?_)
  · skip
    exfalso; omega
  · show jT _ _ 242 _ _ _ _
    show jT _ _ 242 _ _ _ _
    -- leaf 0 at 242
    refine tl_aload_n rfl rfl ?_
    refine tl_iconst rfl ?_
    refine tl_v1v (c9 := 12) (r_layRow l h2 (fun j => rg (rS V) [] [] (rNp V) 0 j) (rNs V).toNat (by omega) (by rw [f2b 25 (by decide) (by decide) (by decide), g1]; omega) (fun q hq => by rw [f2a 403 (by decide) (by decide) (by decide)]; exact g2 q (by omega)) gb false) rfl rfl rfl rfl rfl (Nat.le_of_ble_eq_true rfl) (fun h3 p3 => ?_)
    obtain ⟨b3, d3, f3⟩ := p3
    refine tl_aload_n rfl rfl ?_
    refine tl_aload_n rfl rfl ?_
    refine tl_geti (c := 12) (k9 := 36) rfl rfl rfl ?_
    rw [f3 388 (by decide), f2b 36 (by decide) (by decide) (by decide), g4 36 (by decide), fd.2.2.1]
    show jT _ _ 252 _ _ _ _
    refine tl_iload_n rfl rfl ?_
    refine tl_isub rfl ?_
    rw [show rNs V - (rC V : Int) = (((rNs V).toNat - rC V : Nat) : Int) by omega]
    refine tl_iconst rfl ?_
    refine tl_v2v (c9 := 12) (r_readRow l h3 (TB V) (rN V) ((rNs V).toNat - rC V) (r1 V).2.1 1 hB (by omega) (by decide) (k2.at9 (fun q hq => by rw [f3 388 (by decide)]) (f3 407 (by decide)))) rfl rfl rfl rfl rfl (Nat.le_of_ble_eq_true rfl) (fun h4 p4 => ?_)
    show jT _ _ 258 _ _ _ _
    -- leaf 0 at 258
    obtain ⟨⟨p4, k4, e4⟩, k4b, f4a, f4b, f4c⟩ := p4
    change RDR h4 (TB V) (rN V) p4 (r2 V).1 at k4
    change (r2 V).1 = 0 → p4 = (r2 V).2.1 at e4
    change (r2 V).1 = 0 → BL h4 (r2 V).2.2 ∧ _ at k4b
    by_cases z7 : (r2 V).1 = 0
    rotate_left
    · have er : rdT V fo R = (r2 V).1 := by unfold rdT; rw [if_neg (fun w => w z5), if_pos z7]
      exact r_t258 l h4 (r2 V).1 k4.2.2.1 k4.2.2.2.2.2.2.2 z7 sz fo _ P (hP _ _ ⟨er.symm, fun w => absurd (er ▸ w) z7, fun x a1 a2 => by rw [f4a x a1 (by omega) (by omega), f3 x (by omega), f2a x a1 (by omega) (by omega), g3 x a1 (by omega)], fun q a1 a2 a3 => by rw [f4b q a2 (by omega) (by omega), f3 388 (by decide), f2b q a2 (by omega) (by omega), g4 q a1]⟩)
    rw [z7, e4 z7] at k4
    have G := rd_G hV v3 z2 z3 z5 z7
    have G23 := G.2.1.2.2
    refine tl_aload_n rfl rfl ?_
    refine tl_geti (c := 12) (k9 := 33) rfl rfl rfl ?_
    rw [k4.2.2.1]
    refine tl_if_ne (tgt := 292) rfl rfl ⟨by omega, by omega⟩ (fun c1 => ?_) (fun c1 => ?_)
    · skip
      exfalso; omega
    · show jT _ _ 265 _ _ _ _
      show jT _ _ 265 _ _ _ _
      -- leaf 0 at 265
      refine tl_aload_n rfl rfl ?_
      refine tl_iconst rfl ?_
      refine tl_v1v (c9 := 12) (r_layRow l h4 (fun j => rg (rS V) [] [] (rNp V) 0 j) (rNs V).toNat (by omega) (by rw [f4b 25 (by decide) (by decide) (by decide), f3 388 (by decide), f2b 25 (by decide) (by decide) (by decide), g1]; omega) (fun q hq => by rw [f4a 403 (by decide) (by decide) (by decide), f3 403 (by decide), f2a 403 (by decide) (by decide) (by decide)]; exact g2 q (by omega)) gb true) rfl rfl rfl rfl rfl (Nat.le_of_ble_eq_true rfl) (fun h5 p5 => ?_)
      obtain ⟨b5, d5, f5⟩ := p5
      have og5 : OGR h5 (rG V) (rNs V).toNat := by
        refine ⟨by rw [f5 388 (by decide), f4b 25 (by decide) (by decide) (by decide), f3 388 (by decide), f2b 25 (by decide) (by decide) (by decide), g1]; omega, fun q hq => ?_⟩
        have pq : h5 403 q = (fun j => rg (rS V) [] [] (rNp V) 0 j) q := by rw [f5 403 (by decide), f4a 403 (by decide) (by decide) (by decide), f3 403 (by decide), f2a 403 (by decide) (by decide) (by decide)]; exact g2 q (by omega)
        have rc := I.rgc (D := (r1 V).2.2) (X := (r2 V).2.2) (by rw [G.1.1, P14]; exact tqn) (by rw [G.2.1.1]; omega) q (by omega)
        refine ⟨pq.trans (rg_0 _ _), ?_⟩
        by_cases c : rg (rS V) [] [] (rNp V) 0 q = -1
        · rw [b5 q hq (decide_eq_true c), (k4b z7).1.2 _ (rc.1 c).1]; exact (rc.1 c).2.symm
        · rw [d5 q hq (by rw [decide_eq_false c]; decide), f4a 404 (by decide) (by decide) (by decide), b3 q hq (decide_eq_false c), (k2b z5).1.2 _ (rc.2 c).1]; exact (rc.2 c).2.symm
      have ft5 : FT9 mem h5 := ⟨fun x a1 a2 => by rw [f5 x (by omega), f4a x a1 (by omega) (by omega), f3 x (by omega), f2a x a1 (by omega) (by omega), g3 x a1 (by omega)], fun q a1 a2 a3 => by rw [f5 388 (by decide), f4b q a2 (by omega) (by omega), f3 388 (by decide), f2b q a2 (by omega) (by omega), g4 q a1]⟩
      have fq5 : ∀ q, 34 ≤ q → q ≤ 38 → h5 388 q = mem 388 q := fun q q1 q2 => by rw [f5 388 (by decide), f4b q (by omega) (by omega) (by omega), f3 388 (by decide), f2b q (by omega) (by omega) (by omega), g4 q (by omega)]
      have rd5 : RDRP h5 V := ⟨⟨by rw [fq5 34 (by omega) (by omega)]; exact fd.1, by rw [fq5 35 (by omega) (by omega)]; exact fd.2.1, by rw [fq5 36 (by omega) (by omega)]; exact fd.2.2.1, by rw [fq5 37 (by omega) (by omega)]; exact fd.2.2.2.1, by rw [fq5 38 (by omega) (by omega)]; exact fd.2.2.2.2⟩, kp.of (fun x x1 x2 => by rw [f5 x (by omega), f4a x (by omega) (by omega) (by omega), f3 x (by omega), f2a x (by omega) (by omega) (by omega), g3 x (by omega) (by omega)]), og5, by rw [f5 412 (by decide), f4c 0 (by decide), f3 412 (by decide)]; exact (k2b z5).2, by rw [f5 412 (by decide)]; exact (k4b z7).2⟩
      refine tl_aload_n rfl rfl ?_
      refine tl_aload_n rfl rfl ?_
      refine tl_geti (c := 12) (k9 := 32) rfl rfl rfl ?_
      rw [f5 388 (by decide), k4.1]
      show jT _ _ 275 _ _ _ _
      refine tl_aload_n rfl rfl ?_
      refine tl_geti (c := 12) (k9 := 31) rfl rfl rfl ?_
      rw [f5 388 (by decide), k4.2.1]
      refine tl_icmp_ge (tgt := 286) rfl rfl ⟨by omega, by omega⟩ ⟨by omega, by omega⟩ (fun c1 => ?_) (fun c1 => ?_)
      · skip
        refine tl_iconst rfl ?_
        refine tl_bipush rfl rfl ?_
        refine tl_v2v (c9 := 12) (r_fails2 l h5 0 (by rw [f5 388 (by decide)]; exact k4.2.2.1) (by omega) _ 6 (by omega) (by omega) (by omega)) rfl rfl rfl rfl rfl (Nat.le_of_ble_eq_true rfl) (fun h6 p6 => ?_)
        subst p6
        show jT _ _ 292 _ _ _ _
        -- leaf 0 at 292
        have z8 : ¬ (r2 V).2.1 < rN V := by omega
        rw [show (if (0 : Int) = 0 ∧ (0 : Int) = 1 then (6 : Int) else 0) = 0 from rfl]
        exact r_t292g l _ V hV v3 fo R (by rw [hs_O (by decide), ft5.1 390 (by decide) (by omega)]; exact e390) ok z2 z3 (rd5.of (fun q hq => hs_k (by omega)) (fun x hx => hs_O (by omega))) z5 z7 z8 hs_s sz _ P (fun z m2 hz => hP z m2 ⟨hz.1, hz.2.1, (ft5.trans (FT9.put (by decide))).trans hz.2.2⟩)
      · show jT _ _ 282 _ _ _ _
        refine tl_iconst rfl ?_
        show jT _ _ 283 _ _ _ _
        refine tl_goto (tgt := 287) rfl rfl ?_
        refine tl_bipush rfl rfl ?_
        refine tl_v2v (c9 := 12) (r_fails2 l h5 0 (by rw [f5 388 (by decide)]; exact k4.2.2.1) (by omega) _ 6 (by omega) (by omega) (by omega)) rfl rfl rfl rfl rfl (Nat.le_of_ble_eq_true rfl) (fun h6 p6 => ?_)
        subst p6
        show jT _ _ 292 _ _ _ _
        -- leaf 1 at 292
        have z8 : (r2 V).2.1 < rN V := by omega
        rw [show (if (0 : Int) = 0 ∧ (1 : Int) = 1 then (6 : Int) else 0) = 6 from rfl]
        have er : rdT V fo R = 6 := by unfold rdT; rw [if_neg (fun w => w z5), if_neg (fun w => w z7), if_pos z8]
        exact r_t292 l _ 6 hs_s (by omega) (by decide) sz fo _ P (hP _ _ ⟨er.symm, fun w => by rw [er] at w; exact absurd w (by decide), ft5.trans (FT9.put (by decide))⟩)
