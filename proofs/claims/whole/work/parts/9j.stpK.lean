/-! recipes: a step, of the class -/
def FAx (a k : Nat) (h h' : jH) : Prop := (∀ x, x ≠ 362 → x ≠ a → h' x = h x) ∧ (∀ q, q ≠ k → h' a q = h a q) ∧ ∀ q, q ≠ 3 → q ≠ 4 → q ≠ 5 → h' 362 q = h 362 q
theorem FN.fa {a k : Nat} {h h' : jH} (ha : a ≠ 362) (f : FN h h') : FAx a k h h' := ⟨fun x x1 _ => f.1 x x1, fun q _ => by rw [f.1 a ha], f.2⟩
theorem FN.fw {a k : Nat} {h h' : jH} {v : Int} (ha : a ≠ 362) (f : FN h h') : FAx a k h (hs h' a k v) := ⟨fun x x1 x2 => by rw [hs_O x2]; exact f.1 x x1, fun q q1 => by rw [hs_k q1, f.1 a ha], fun q q1 q2 q3 => by rw [hs_o (Ne.symm ha)]; exact f.2 q q1 q2 q3⟩
theorem TK.c9 {h h' : jH} {B : Nat → Int} {N f : Nat} (k : TK h B N f) (e2 : h' 362 = h 362) (e3 : h' 363 = h 363) (e4 : h' 364 = h 364) : TK h' B N f := ⟨⟨by rw [e3]; exact k.1.1, fun i hi => by rw [e4]; exact k.1.2.1 i hi, k.1.2.2⟩, by rw [e2]; exact k.2.1, by rw [e2]; exact k.2.2.1, k.2.2.2⟩
theorem st9_N {B : Nat → Int} {N f : Nat} {b : Bool} (h : f ≤ N) : st9 B N f b ≤ N := by
  unfold st9
  split
  · exact (nx_b h).2.1
  · exact h
set_option maxRecDepth 20000 in
set_option maxHeartbeats 1000000 in
theorem k_rMany (l : Launch) (h : jH) (B : Nat → Int) (N f : Nat) (tk : TK h B N f) (k : Nat) (k24 : k < 24) (most : Int) (m0 : 0 ≤ most) (m1 : most ≤ 999) : cI l 84 [.ref 362, .int (jI (k : Int)), .int (jI most)] h (fun z h' => z = zb (nb B N f 1 most) ∧ TK h' B N (st9 B N f (nb B N f 1 most)) ∧ ((nb B N f 1 most) = true → h' 366 k = nv B N f) ∧ FAx 366 k h h') := by
  refine cI.ofZ rfl rfl ?_
  refine tl_iload_n rfl rfl ?_
  refine tl_if_lt (tgt := 19) rfl rfl ⟨by omega, by omega⟩ (fun c1 => ?_) (fun c1 => ?_)
  · skip
    refine tl_iconst rfl ?_
    refine tl_iret rfl ?_
    -- leaf 0 at 20
    first
      | (exfalso; omega)
      | (rw [ez] at t1 ⊢
         exact ⟨0, rfl, Or.inl rfl, rfl, t1, fun q => absurd q (by decide), fr1.fa (by decide)⟩)
  · show jT _ _ 4 _ _ _ _
    refine tl_iload_n rfl rfl ?_
    refine tl_bipush rfl rfl ?_
    show jT _ _ 7 _ _ _ _
    refine tl_icmp_ge (tgt := 19) rfl rfl ⟨by omega, by omega⟩ ⟨by omega, by omega⟩ (fun c2 => ?_) (fun c2 => ?_)
    · skip
      refine tl_iconst rfl ?_
      refine tl_iret rfl ?_
      -- leaf 1 at 20
      first
        | (exfalso; omega)
        | (rw [ez] at t1 ⊢
           exact ⟨0, rfl, Or.inl rfl, rfl, t1, fun q => absurd q (by decide), fr1.fa (by decide)⟩)
    · show jT _ _ 10 _ _ _ _
      refine tl_aload_n rfl rfl ?_
      refine tl_iconst rfl ?_
      refine tl_iload_n rfl rfl ?_
      refine tl_v2i (c9 := 7) (k_isNum l h B N (f) tk (1) (most) (by omega) (by omega) (by omega) (by omega)) rfl rfl rfl rfl rfl (Nat.le_of_ble_eq_true rfl) (fun z1 h1 p1 => ?_)
      obtain ⟨e1, t1, fr1, v1⟩ := p1
      have b1 := zb_b (nb B N (f) (1) (most))
      subst e1
      show jT _ _ 16 _ _ _ _
      refine tl_if_ne (tgt := 21) rfl rfl ⟨by omega, by omega⟩ (fun c3 => ?_) (fun c3 => ?_)
      · skip
        have ez := zb1 c3
        refine tl_aload_n rfl rfl ?_
        refine tl_getr (c := 7) (k9 := 8) (b := 366) rfl rfl rfl rfl ?_
        refine tl_iload_n rfl rfl ?_
        refine tl_aload_n rfl rfl ?_
        refine tl_geti (c := 7) (k9 := 5) rfl rfl rfl ?_
        rw [v1 ez]
        refine tl_iast (n := 24) rfl rfl rfl (by omega) (by omega) ?_
        rw [Int.toNat_natCast]
        show jT _ _ 31 _ _ _ _
        refine tl_iconst rfl ?_
        refine tl_iret rfl ?_
        -- leaf 2 at 32
        rw [ez] at t1 ⊢
        exact ⟨1, rfl, Or.inr rfl, rfl, t1.c9 (hs_O (by decide)) (hs_O (by decide)) (hs_O (by decide)), fun _ => hs_s, fr1.fw (by decide)⟩
      · show jT _ _ 19 _ _ _ _
        have ez := zb0' c3
        refine tl_iconst rfl ?_
        refine tl_iret rfl ?_
        -- leaf 3 at 20
        first
          | (exfalso; omega)
          | (rw [ez] at t1 ⊢
             exact ⟨0, rfl, Or.inl rfl, rfl, t1, fun q => absurd q (by decide), fr1.fa (by decide)⟩)
set_option maxRecDepth 20000 in
set_option maxHeartbeats 1000000 in
theorem k_rWhat (l : Launch) (h : jH) (B : Nat → Int) (N f : Nat) (tk : TK h B N f) (k : Nat) (k24 : k < 24) (lo most : Int) (l0 : 0 ≤ lo) (l1 : lo ≤ 999) (m0 : 0 ≤ most) (m1 : most ≤ 999) : cI l 85 [.ref 362, .int (jI (k : Int)), .int (jI lo), .int (jI most)] h (fun z h' => z = zb (nb B N f lo most) ∧ TK h' B N (st9 B N f (nb B N f lo most)) ∧ ((nb B N f lo most) = true → h' 367 k = nv B N f) ∧ FAx 367 k h h') := by
  refine cI.ofZ rfl rfl ?_
  refine tl_iload_n rfl rfl ?_
  refine tl_if_lt (tgt := 19) rfl rfl ⟨by omega, by omega⟩ (fun c1 => ?_) (fun c1 => ?_)
  · skip
    refine tl_iconst rfl ?_
    refine tl_iret rfl ?_
    -- leaf 0 at 20
    first
      | (exfalso; omega)
      | (rw [ez] at t1 ⊢
         exact ⟨0, rfl, Or.inl rfl, rfl, t1, fun q => absurd q (by decide), fr1.fa (by decide)⟩)
  · show jT _ _ 4 _ _ _ _
    refine tl_iload_n rfl rfl ?_
    refine tl_bipush rfl rfl ?_
    show jT _ _ 7 _ _ _ _
    refine tl_icmp_ge (tgt := 19) rfl rfl ⟨by omega, by omega⟩ ⟨by omega, by omega⟩ (fun c2 => ?_) (fun c2 => ?_)
    · skip
      refine tl_iconst rfl ?_
      refine tl_iret rfl ?_
      -- leaf 1 at 20
      first
        | (exfalso; omega)
        | (rw [ez] at t1 ⊢
           exact ⟨0, rfl, Or.inl rfl, rfl, t1, fun q => absurd q (by decide), fr1.fa (by decide)⟩)
    · show jT _ _ 10 _ _ _ _
      refine tl_aload_n rfl rfl ?_
      refine tl_iload_n rfl rfl ?_
      refine tl_iload_n rfl rfl ?_
      refine tl_v2i (c9 := 7) (k_isNum l h B N (f) tk (lo) (most) (by omega) (by omega) (by omega) (by omega)) rfl rfl rfl rfl rfl (Nat.le_of_ble_eq_true rfl) (fun z1 h1 p1 => ?_)
      obtain ⟨e1, t1, fr1, v1⟩ := p1
      have b1 := zb_b (nb B N (f) (lo) (most))
      subst e1
      show jT _ _ 16 _ _ _ _
      refine tl_if_ne (tgt := 21) rfl rfl ⟨by omega, by omega⟩ (fun c3 => ?_) (fun c3 => ?_)
      · skip
        have ez := zb1 c3
        refine tl_aload_n rfl rfl ?_
        refine tl_getr (c := 7) (k9 := 9) (b := 367) rfl rfl rfl rfl ?_
        refine tl_iload_n rfl rfl ?_
        refine tl_aload_n rfl rfl ?_
        refine tl_geti (c := 7) (k9 := 5) rfl rfl rfl ?_
        rw [v1 ez]
        refine tl_iast (n := 24) rfl rfl rfl (by omega) (by omega) ?_
        rw [Int.toNat_natCast]
        show jT _ _ 31 _ _ _ _
        refine tl_iconst rfl ?_
        refine tl_iret rfl ?_
        -- leaf 2 at 32
        rw [ez] at t1 ⊢
        exact ⟨1, rfl, Or.inr rfl, rfl, t1.c9 (hs_O (by decide)) (hs_O (by decide)) (hs_O (by decide)), fun _ => hs_s, fr1.fw (by decide)⟩
      · show jT _ _ 19 _ _ _ _
        have ez := zb0' c3
        refine tl_iconst rfl ?_
        refine tl_iret rfl ?_
        -- leaf 3 at 20
        first
          | (exfalso; omega)
          | (rw [ez] at t1 ⊢
             exact ⟨0, rfl, Or.inl rfl, rfl, t1, fun q => absurd q (by decide), fr1.fa (by decide)⟩)
def sB9 (B : Nat → Int) (N f : Nat) : Bool × Nat := if wd B N f 2 = true then mvp B N (false, nx B N f) (fun q => nb B N q 0 255) else (false, f)
def zn (b : Bool) : Int := if b = true then 0 else 1
theorem zn_t : zn true = 0 := rfl
theorem zn_f : zn false = 1 := rfl
set_option maxRecDepth 20000 in
set_option maxHeartbeats 1000000 in
theorem k_rBy (l : Launch) (h : jH) (B : Nat → Int) (N f : Nat) (tk : TK h B N f) (k : Nat) (k24 : k < 24) : cI l 82 [.ref 362, .int (jI (k : Int))] h (fun z h' => z = zn (sB9 B N f).1 ∧ TK h' B N (sB9 B N f).2 ∧ ((sB9 B N f).1 = false → h' 368 k = if wd B N f 2 = true then nv B N (nx B N f) else h 368 k) ∧ FAx 368 k h h') := by
  refine cI.ofZ rfl rfl ?_
  refine tl_aload_n rfl rfl ?_
  refine tl_ldcs (q := 2) rfl ?_
  refine tl_v1i (c9 := 7) (k_isWrd l h B N (f) tk 2 (by decide)) rfl rfl rfl rfl rfl (Nat.le_of_ble_eq_true rfl) (fun z1 h1 p1 => ?_)
  obtain ⟨e1, t1, fr1, v1⟩ := p1
  have b1 := zb_b (wd B N (f) 2)
  subst e1
  refine tl_if_ne (tgt := 11) rfl rfl ⟨by omega, by omega⟩ (fun c1 => ?_) (fun c1 => ?_)
  · skip
    have ew := zb1 c1
    rw [st9_t ew] at t1
    refine tl_iload_n rfl rfl ?_
    refine tl_if_lt (tgt := 32) rfl rfl ⟨by omega, by omega⟩ (fun c2 => ?_) (fun c2 => ?_)
    · skip
      show jT _ _ 32 _ _ _ _
      refine tl_iconst rfl ?_
      refine tl_iret rfl ?_
      -- leaf 0 at 33
      first
        | (exfalso; omega)
        | (have e : sB9 B N f = (true, nx B N f) := by rw [sB9, if_pos ew, mvp_f ez]
           rw [e]
           rw [st9_f ez] at t2
           exact ⟨0, rfl, Or.inl rfl, rfl, t2, fun q => absurd (show true = false from q) (by decide), (fr1.trans fr2).fa (by decide)⟩)
    · show jT _ _ 15 _ _ _ _
      refine tl_iload_n rfl rfl ?_
      refine tl_bipush rfl rfl ?_
      refine tl_icmp_ge (tgt := 32) rfl rfl ⟨by omega, by omega⟩ ⟨by omega, by omega⟩ (fun c3 => ?_) (fun c3 => ?_)
      · skip
        refine tl_iconst rfl ?_
        refine tl_iret rfl ?_
        -- leaf 1 at 33
        first
          | (exfalso; omega)
          | (have e : sB9 B N f = (true, nx B N f) := by rw [sB9, if_pos ew, mvp_f ez]
             rw [e]
             rw [st9_f ez] at t2
             exact ⟨0, rfl, Or.inl rfl, rfl, t2, fun q => absurd (show true = false from q) (by decide), (fr1.trans fr2).fa (by decide)⟩)
      · show jT _ _ 21 _ _ _ _
        show jT _ _ 21 _ _ _ _
        refine tl_aload_n rfl rfl ?_
        refine tl_iconst rfl ?_
        refine tl_sipush rfl rfl ?_
        refine tl_v2i (c9 := 7) (k_isNum l h1 B N (nx B N f) t1 (0) (255) (by omega) (by omega) (by omega) (by omega)) rfl rfl rfl rfl rfl (Nat.le_of_ble_eq_true rfl) (fun z2 h2 p2 => ?_)
        obtain ⟨e2, t2, fr2, v2⟩ := p2
        have b2 := zb_b (nb B N (nx B N f) (0) (255))
        subst e2
        refine tl_if_ne (tgt := 34) rfl rfl ⟨by omega, by omega⟩ (fun c4 => ?_) (fun c4 => ?_)
        · skip
          have ez := zb1 c4
          refine tl_aload_n rfl rfl ?_
          refine tl_getr (c := 7) (k9 := 10) (b := 368) rfl rfl rfl rfl ?_
          show jT _ _ 38 _ _ _ _
          refine tl_iload_n rfl rfl ?_
          refine tl_aload_n rfl rfl ?_
          refine tl_geti (c := 7) (k9 := 5) rfl rfl rfl ?_
          rw [v2 ez]
          refine tl_iast (n := 24) rfl rfl rfl (by omega) (by omega) ?_
          rw [Int.toNat_natCast]
          refine tl_iconst rfl ?_
          refine tl_iret rfl ?_
          -- leaf 2 at 45
          have e : sB9 B N f = (false, nx B N (nx B N f)) := by rw [sB9, if_pos ew, mvp_t ez]
          rw [e]
          rw [st9_t ez] at t2
          exact ⟨1, rfl, Or.inr rfl, rfl, t2.c9 (hs_O (by decide)) (hs_O (by decide)) (hs_O (by decide)), fun _ => by rw [hs_s, if_pos ew], (fr1.trans fr2).fw (by decide)⟩
        · show jT _ _ 32 _ _ _ _
          have ez := zb0' c4
          refine tl_iconst rfl ?_
          show jT _ _ 33 _ _ _ _
          refine tl_iret rfl ?_
          -- leaf 3 at 33
          first
            | (exfalso; omega)
            | (have e : sB9 B N f = (true, nx B N f) := by rw [sB9, if_pos ew, mvp_f ez]
               rw [e]
               rw [st9_f ez] at t2
               exact ⟨0, rfl, Or.inl rfl, rfl, t2, fun q => absurd (show true = false from q) (by decide), (fr1.trans fr2).fa (by decide)⟩)
  · show jT _ _ 9 _ _ _ _
    have ew := zb0' c1
    rw [st9_f ew] at t1
    refine tl_iconst rfl ?_
    refine tl_iret rfl ?_
    -- leaf 4 at 10
    have e : sB9 B N f = (false, f) := by rw [sB9, if_neg (by rw [ew]; decide)]
    rw [e]
    exact ⟨1, rfl, Or.inr rfl, rfl, t1, fun _ => by rw [if_neg (by rw [ew]; decide), fr1.1 368 (by decide)], fr1.fa (by decide)⟩
set_option maxRecDepth 20000 in
set_option maxHeartbeats 1000000 in
theorem k_openBr (l : Launch) (h : jH) (B : Nat → Int) (N f : Nat) (tk : TK h B N f) (k : Nat) (k24 : k < 24) (d : Nat) (d4 : d ≤ 4) (ed : h 362 15 = (d : Int)) : cI l 86 [.ref 362, .int (jI (k : Int))] h (fun z h' => z = zb (sg B N f 40 && decide (d < 4)) ∧ TK h' B N (st9 B N f (sg B N f 40 && decide (d < 4))) ∧ ((sg B N f 40 && decide (d < 4)) = true → h' 372 d = (k : Int) ∧ h' 362 15 = ((d + 1 : Nat) : Int)) ∧ (∀ x, x ≠ 362 → x ≠ 372 → h' x = h x) ∧ (∀ q, q ≠ d → h' 372 q = h 372 q) ∧ ∀ q, q ≠ 3 → q ≠ 4 → q ≠ 5 → q ≠ 15 → h' 362 q = h 362 q) := by
  refine cI.ofZ rfl rfl ?_
  refine tl_aload_n rfl rfl ?_
  refine tl_geti (c := 7) (k9 := 15) rfl rfl rfl ?_
  rw [ed]
  refine tl_if_lt (tgt := 24) rfl rfl ⟨by omega, by omega⟩ (fun c1 => ?_) (fun c1 => ?_)
  · skip
    refine tl_iconst rfl ?_
    refine tl_iret rfl ?_
    -- leaf 0 at 25
    first
      | (exfalso; omega)
      | (have e : (sg B N f 40 && decide (d < 4)) = false := by rw [ez]; rfl
         rw [e]
         rw [ez] at t1
         exact ⟨0, rfl, Or.inl rfl, rfl, t1, fun q => absurd q (by decide), fun x x1 _ => fr1.1 x x1, fun q _ => by rw [fr1.1 372 (by decide)], fun q a b c _ => fr1.2 q a b c⟩)
      | (have e : (sg B N f 40 && decide (d < 4)) = false := by rw [decide_eq_false (show ¬ d < 4 by omega), Bool.and_false]
         rw [e, st9_f rfl]
         exact ⟨0, rfl, Or.inl rfl, rfl, tk, fun q => absurd q (by decide), fun x x1 _ => rfl, fun q _ => rfl, fun q a b c _ => rfl⟩)
  · show jT _ _ 7 _ _ _ _
    refine tl_aload_n rfl rfl ?_
    show jT _ _ 8 _ _ _ _
    refine tl_geti (c := 7) (k9 := 15) rfl rfl rfl ?_
    rw [ed]
    refine tl_iconst rfl ?_
    refine tl_icmp_ge (tgt := 24) rfl rfl ⟨by omega, by omega⟩ ⟨by omega, by omega⟩ (fun c2 => ?_) (fun c2 => ?_)
    · skip
      refine tl_iconst rfl ?_
      refine tl_iret rfl ?_
      -- leaf 1 at 25
      first
        | (exfalso; omega)
        | (have e : (sg B N f 40 && decide (d < 4)) = false := by rw [ez]; rfl
           rw [e]
           rw [ez] at t1
           exact ⟨0, rfl, Or.inl rfl, rfl, t1, fun q => absurd q (by decide), fun x x1 _ => fr1.1 x x1, fun q _ => by rw [fr1.1 372 (by decide)], fun q a b c _ => fr1.2 q a b c⟩)
        | (have e : (sg B N f 40 && decide (d < 4)) = false := by rw [decide_eq_false (show ¬ d < 4 by omega), Bool.and_false]
           rw [e, st9_f rfl]
           exact ⟨0, rfl, Or.inl rfl, rfl, tk, fun q => absurd q (by decide), fun x x1 _ => rfl, fun q _ => rfl, fun q a b c _ => rfl⟩)
    · show jT _ _ 15 _ _ _ _
      refine tl_aload_n rfl rfl ?_
      refine tl_bipush rfl rfl ?_
      show jT _ _ 18 _ _ _ _
      refine tl_v1i (c9 := 7) (k_isSgn l h B N (f) tk 40 (by decide) (by decide)) rfl rfl rfl rfl rfl (Nat.le_of_ble_eq_true rfl) (fun z1 h1 p1 => ?_)
      obtain ⟨e1, t1, fr1, v1⟩ := p1
      have b1 := zb_b (sg B N (f) 40)
      subst e1
      refine tl_if_ne (tgt := 26) rfl rfl ⟨by omega, by omega⟩ (fun c3 => ?_) (fun c3 => ?_)
      · skip
        have ez := zb1 c3
        refine tl_aload_n rfl rfl ?_
        refine tl_getr (c := 7) (k9 := 13) (b := 372) rfl rfl rfl rfl ?_
        refine tl_aload_n rfl rfl ?_
        refine tl_geti (c := 7) (k9 := 15) rfl rfl rfl ?_
        rw [fr1.2 15 (by decide) (by decide) (by decide), ed]
        refine tl_iload_n rfl rfl ?_
        show jT _ _ 35 _ _ _ _
        refine tl_iast (n := 4) rfl rfl rfl (by omega) (by omega) ?_
        rw [Int.toNat_natCast]
        refine tl_aload_n rfl rfl ?_
        refine tl_dup rfl rfl ?_
        refine tl_geti (c := 7) (k9 := 15) rfl rfl rfl ?_
        rw [hs_O (by decide), fr1.2 15 (by decide) (by decide) (by decide), ed]
        refine tl_iconst rfl ?_
        refine tl_iadd rfl ?_
        refine tl_puti (c := 7) (k9 := 15) rfl rfl rfl rfl ?_
        show jT _ _ 46 _ _ _ _
        refine tl_iconst rfl ?_
        refine tl_iret rfl ?_
        -- leaf 2 at 47
        have e : (sg B N f 40 && decide (d < 4)) = true := by rw [ez, decide_eq_true (show d < 4 by omega)]; rfl
        rw [e]
        rw [ez] at t1
        refine ⟨1, rfl, Or.inr rfl, rfl, ?_, fun _ => ⟨by rw [hs_O (by decide), hs_s], by rw [hs_s]; omega⟩, fun x x1 x2 => by rw [hs_O x1, hs_O x2]; exact fr1.1 x x1, fun q hq => by rw [hs_O (by decide), hs_k hq, fr1.1 372 (by decide)], fun q a b c d9 => by rw [hs_k d9, hs_o (by decide)]; exact fr1.2 q a b c⟩
        exact ⟨⟨by rw [hs_O (by decide), hs_O (by decide)]; exact t1.1.1, fun i hi => by rw [hs_O (by decide), hs_O (by decide)]; exact t1.1.2.1 i hi, t1.1.2.2⟩, by rw [hs_k (by decide), hs_o (by decide)]; exact t1.2.1, by rw [hs_k (by decide), hs_o (by decide)]; exact t1.2.2.1, t1.2.2.2⟩
      · show jT _ _ 24 _ _ _ _
        have ez := zb0' c3
        refine tl_iconst rfl ?_
        refine tl_iret rfl ?_
        -- leaf 3 at 25
        first
          | (exfalso; omega)
          | (have e : (sg B N f 40 && decide (d < 4)) = false := by rw [ez]; rfl
             rw [e]
             rw [ez] at t1
             exact ⟨0, rfl, Or.inl rfl, rfl, t1, fun q => absurd q (by decide), fun x x1 _ => fr1.1 x x1, fun q _ => by rw [fr1.1 372 (by decide)], fun q a b c _ => fr1.2 q a b c⟩)
          | (have e : (sg B N f 40 && decide (d < 4)) = false := by rw [decide_eq_false (show ¬ d < 4 by omega), Bool.and_false]
             rw [e, st9_f rfl]
             exact ⟨0, rfl, Or.inl rfl, rfl, tk, fun q => absurd q (by decide), fun x x1 _ => rfl, fun q _ => rfl, fun q a b c _ => rfl⟩)
theorem rs370 : RowS 370 371 400 := ⟨rfl, rfl, rfl, rfl⟩
def FSx (h h' : jH) : Prop := (∀ x, x ≠ 362 → x ≠ 370 → x ≠ 371 → h' x = h x) ∧ ∀ q, q ≠ 3 → q ≠ 4 → q ≠ 5 → h' 362 q = h 362 q
theorem FSx.trans {a b c : jH} (h1 : FSx a b) (h2 : FSx b c) : FSx a c := ⟨fun y a1 a2 a3 => (h2.1 y a1 a2 a3).trans (h1.1 y a1 a2 a3), fun q a1 a2 a3 => (h2.2 q a1 a2 a3).trans (h1.2 q a1 a2 a3)⟩
theorem FN.fs {h h' : jH} (f : FN h h') : FSx h h' := ⟨fun x x1 _ _ => f.1 x x1, f.2⟩
set_option maxRecDepth 20000 in
set_option maxHeartbeats 1000000 in
theorem k_rs_lp (l : Launch) (h : jH) (B : Nat → Int) (N : Nat) (n400 : N ≤ 400) (k : Nat) (k24 : k < 24) (SD : List Int) (X : (Bool × Nat) × List Int) (P : Option Value → jH → Prop) (hx : ∀ (mem : jH) (p : Nat) (L : List Int) (i9 : Int), (TK mem B N p ∧ X = ((false, p), L) ∧ RL mem 370 371 (SD ++ L) ∧ FSx h mem) → jT l 83 77 [some (.ref 362), some (.int (jI ((k : Int)))), some (.int (jI (0))), some (.int (jI (i9)))] [] mem P) (h0 : ∀ (mem : jH) (p : Nat), (TK mem B N p ∧ X.1 = (true, p) ∧ FSx h mem) → P (some (.int (jI 0))) mem) : ∀ (m : Nat) (p : Nat) (i : Nat) (L : List Int) (mem : jH), N + 1 - p < m → (TK mem B N p ∧ (sS9 B N (N + 1 - p) p).1 = X.1 ∧ L ++ (sS9 B N (N + 1 - p) p).2 = X.2 ∧ RL mem 370 371 (SD ++ L) ∧ FSx h mem ∧ (SD ++ L).length ≤ p ∧ 2 * i ≤ p) → jT l 83 29 [some (.ref 362), some (.int (jI ((k : Int)))), some (.int (jI (1))), some (.int (jI ((i : Int))))] [] mem P := by
  intro m
  induction m with
  | zero => intro p i L mem hk; omega
  | succ m ih =>
    intro p i L mem hk hi
    obtain ⟨tk, x1, x2, rl, fr, bd, ib⟩ := hi
    have pN := tk.2.2.2
    refine tl_iload_n rfl rfl ?_
    refine tl_sipush rfl rfl ?_
    refine tl_icmp_ge (tgt := 77) rfl rfl ⟨by omega, by omega⟩ ⟨by omega, by omega⟩ (fun c1 => ?_) (fun c1 => ?_)
    · skip
      show jT _ _ 77 _ _ _ _
      -- leaf 0 at 77
      exfalso; omega
    · show jT _ _ 36 _ _ _ _
      refine tl_iload_n rfl rfl ?_
      refine tl_if_eq (tgt := 77) rfl rfl ⟨by omega, by omega⟩ (fun c2 => ?_) (fun c2 => ?_)
      · skip
        exfalso; omega
      · show jT _ _ 40 _ _ _ _
        refine tl_aload_n rfl rfl ?_
        show jT _ _ 41 _ _ _ _
        refine tl_iconst rfl ?_
        refine tl_sipush rfl rfl ?_
        refine tl_v2i (c9 := 7) (k_isNum l mem B N (p) tk (0) (255) (by omega) (by omega) (by omega) (by omega)) rfl rfl rfl rfl rfl (Nat.le_of_ble_eq_true rfl) (fun z1 h1 p1 => ?_)
        obtain ⟨e1, t1, fr1, v1⟩ := p1
        have b1 := zb_b (nb B N (p) (0) (255))
        subst e1
        refine tl_if_ne (tgt := 53) rfl rfl ⟨by omega, by omega⟩ (fun c3 => ?_) (fun c3 => ?_)
        · skip
          have ez := zb1 c3
          refine tl_aload_n rfl rfl ?_
          refine tl_getr (c := 7) (k9 := 12) (b := 370) rfl rfl rfl rfl ?_
          refine tl_aload_n rfl rfl ?_
          show jT _ _ 58 _ _ _ _
          refine tl_geti (c := 7) (k9 := 5) rfl rfl rfl ?_
          rw [v1 ez]
          refine tl_v1v (c9 := 8) (c_addL l rs370 h1 (SD ++ L) (rl.of (fr1.1 370 (by decide)) (fr1.1 371 (by decide))) (by have := nb_lt ez; omega) (nv B N p)) rfl rfl rfl rfl rfl (Nat.le_of_ble_eq_true rfl) (fun h2 p2 => ?_)
          obtain ⟨rl2, f2⟩ := p2
          rw [st9_t ez] at t1
          have t2 : TK h2 B N (nx B N p) := t1.c9 (f2 362 (by decide) (by decide)) (f2 363 (by decide) (by decide)) (f2 364 (by decide) (by decide))
          have fs2 : FSx h h2 := (fr.trans fr1.fs).trans ⟨fun x a b c => f2 x b c, fun q _ _ _ => by rw [f2 362 (by decide) (by decide)]⟩
          rw [List.append_assoc] at rl2
          refine tl_aload_n rfl rfl ?_
          refine tl_bipush rfl rfl ?_
          refine tl_v1i (c9 := 7) (k_isSgn l h2 B N (nx B N p) t2 44 (by decide) (by decide)) rfl rfl rfl rfl rfl (Nat.le_of_ble_eq_true rfl) (fun z3 h3 p3 => ?_)
          obtain ⟨e3, t3, fr3, v3⟩ := p3
          have b3 := zb_b (sg B N (nx B N p) 44)
          subst e3
          refine tl_istore_n rfl (Nat.le_of_ble_eq_true rfl) rfl ?_
          refine tl_iinc rfl rfl rfl ?_
          show jT _ _ 74 _ _ _ _
          refine tl_goto (tgt := 29) rfl rfl ?_
          show jT _ _ 29 _ _ _ _
          -- leaf 1 at 29
          have nl := nb_lt ez
          have n1 := nx_b (B := B) pN
          have n1c := n1.2.2 nl
          cases es : sg B N (nx B N p) 44 with
          | true =>
            have ql := sg_lt (by decide) es
            have n2 := nx_b (B := B) (f := nx B N p) n1.2.1
            have n2c := n2.2.2 ql
            rw [st9_t es] at t3
            rw [sS9_s pN ez es] at x1 x2
            refine ih (nx B N (nx B N p)) (i + 1) (L ++ [nv B N p]) h3 (by omega) ⟨t3, x1, by rw [List.append_assoc]; exact x2, rl2.of (fr3.1 370 (by decide)) (fr3.1 371 (by decide)), fs2.trans fr3.fs, ?_, by omega⟩
            rw [List.length_append, List.length_append]; rw [List.length_append] at bd; show _ + (_ + 1) ≤ _; omega
          | false =>
            rw [st9_f es] at t3
            rw [show N + 1 - p = (N - p) + 1 by omega, sS9_e ez es] at x1 x2
            show jT l 83 29 [some (.ref 362), some (.int (jI ((k : Int)))), some (.int (jI (0))), some (.int (jI ((i : Int) + 1)))] [] h3 P
            refine tl_iload_n rfl rfl ?_
            refine tl_sipush rfl rfl ?_
            refine tl_icmp_ge (tgt := 77) rfl rfl ⟨by omega, by omega⟩ ⟨by omega, by omega⟩ (fun c1 => ?_) (fun c1 => ?_)
            · skip
              show jT _ _ 77 _ _ _ _
              -- leaf 0 at 77
              exact hx h3 (nx B N p) (L ++ [nv B N p]) _ ⟨t3, Prod.ext x1.symm x2.symm, rl2.of (fr3.1 370 (by decide)) (fr3.1 371 (by decide)), fs2.trans fr3.fs⟩
            · show jT _ _ 36 _ _ _ _
              refine tl_iload_n rfl rfl ?_
              refine tl_if_eq (tgt := 77) rfl rfl ⟨by omega, by omega⟩ (fun c2 => ?_) (fun c2 => ?_)
              · skip
                show jT _ _ 77 _ _ _ _
                -- leaf 1 at 77
                exact hx h3 (nx B N p) (L ++ [nv B N p]) _ ⟨t3, Prod.ext x1.symm x2.symm, rl2.of (fr3.1 370 (by decide)) (fr3.1 371 (by decide)), fs2.trans fr3.fs⟩
              · show jT _ _ 40 _ _ _ _
                exfalso; omega
        · show jT _ _ 51 _ _ _ _
          have ez := zb0' c3
          refine tl_iconst rfl ?_
          refine tl_iret rfl ?_
          -- leaf 2 at 52
          rw [show N + 1 - p = (N - p) + 1 by omega, sS9_n ez] at x1
          rw [st9_f ez] at t1
          exact h0 h1 p ⟨t1, x1.symm, fr.trans fr1.fs⟩
set_option maxRecDepth 20000 in
set_option maxHeartbeats 1000000 in
theorem k_rSaid (l : Launch) (h : jH) (B : Nat → Int) (N f : Nat) (tk : TK h B N f) (k : Nat) (k24 : k < 24) (SD : List Int) (rl : RL h 370 371 SD) (bd : SD.length ≤ f) : cI l 83 [.ref 362, .int (jI (k : Int))] h (fun z h' => z = zn (sS9 B N (N + 1 - f) f).1.1 ∧ TK h' B N (sS9 B N (N + 1 - f) f).1.2 ∧ ((sS9 B N (N + 1 - f) f).1.1 = false → RL h' 370 371 (SD ++ (sS9 B N (N + 1 - f) f).2) ∧ h' 366 k = ((sS9 B N (N + 1 - f) f).2.length : Int) ∧ h' 367 k = (SD.length : Int)) ∧ (∀ x, x ≠ 362 → x ≠ 366 → x ≠ 367 → x ≠ 370 → x ≠ 371 → h' x = h x) ∧ (∀ q, q ≠ k → h' 366 q = h 366 q ∧ h' 367 q = h 367 q) ∧ ∀ q, q ≠ 3 → q ≠ 4 → q ≠ 5 → h' 362 q = h 362 q) := by
  have n400 := tk.1.2.2.1
  refine cI.ofZ rfl rfl ?_
  refine tl_iload_n rfl rfl ?_
  refine tl_if_lt (tgt := 10) rfl rfl ⟨by omega, by omega⟩ (fun c1 => ?_) (fun c1 => ?_)
  · skip
    refine tl_iconst rfl ?_
    refine tl_iret rfl ?_
    -- leaf 0 at 11
    exfalso; omega
  · show jT _ _ 4 _ _ _ _
    refine tl_iload_n rfl rfl ?_
    refine tl_bipush rfl rfl ?_
    show jT _ _ 7 _ _ _ _
    refine tl_icmp_lt (tgt := 12) rfl rfl ⟨by omega, by omega⟩ ⟨by omega, by omega⟩ (fun c2 => ?_) (fun c2 => ?_)
    · skip
      refine tl_aload_n rfl rfl ?_
      refine tl_getr (c := 7) (k9 := 9) (b := 367) rfl rfl rfl rfl ?_
      refine tl_iload_n rfl rfl ?_
      refine tl_aload_n rfl rfl ?_
      refine tl_getr (c := 7) (k9 := 12) (b := 370) rfl rfl rfl rfl ?_
      refine tl_geti (c := 8) (k9 := 1) rfl rfl rfl ?_
      rw [rl.1]
      show jT _ _ 24 _ _ _ _
      refine tl_iast (n := 24) rfl rfl rfl (by omega) (by omega) ?_
      rw [Int.toNat_natCast]
      refine tl_iconst rfl ?_
      refine tl_istore_n rfl (Nat.le_of_ble_eq_true rfl) rfl ?_
      refine tl_iconst rfl ?_
      refine tl_istore_n rfl (Nat.le_of_ble_eq_true rfl) rfl ?_
      show jT _ _ 29 _ _ _ _
      -- leaf 1 at 29
      refine k_rs_lp l (hs h 367 k (SD.length : Int)) B N n400 k k24 SD (sS9 B N (N + 1 - f) f) _ (fun mem p L i9 hj => ?_) (fun mem p hj => ?_) _ f 0 [] _ (Nat.lt_succ_self _) ⟨tk.c9 (hs_O (by decide)) (hs_O (by decide)) (hs_O (by decide)), rfl, rfl, by rw [List.append_nil]; exact rl.of (hs_O (by decide)) (hs_O (by decide)), ⟨fun _ _ _ _ => rfl, fun _ _ _ _ => rfl⟩, by rw [List.append_nil]; exact bd, by omega⟩
      · obtain ⟨tm, eX, rlm, fm⟩ := hj
        refine tl_aload_n rfl rfl ?_
        refine tl_getr (c := 7) (k9 := 8) (b := 366) rfl rfl rfl rfl ?_
        refine tl_iload_n rfl rfl ?_
        refine tl_aload_n rfl rfl ?_
        refine tl_getr (c := 7) (k9 := 12) (b := 370) rfl rfl rfl rfl ?_
        refine tl_geti (c := 8) (k9 := 1) rfl rfl rfl ?_
        rw [rlm.1]
        show jT _ _ 89 _ _ _ _
        refine tl_aload_n rfl rfl ?_
        refine tl_getr (c := 7) (k9 := 9) (b := 367) rfl rfl rfl rfl ?_
        refine tl_iload_n rfl rfl ?_
        refine tl_iald (n := 24) rfl rfl rfl (by omega) (by omega) ?_
        rw [Int.toNat_natCast, fm.1 367 (by decide) (by decide) (by decide), hs_s]
        refine tl_isub rfl ?_
        refine tl_iast (n := 24) rfl rfl rfl (by omega) (by omega) ?_
        rw [Int.toNat_natCast]
        refine tl_iconst rfl ?_
        show jT _ _ 98 _ _ _ _
        refine tl_iret rfl ?_
        -- leaf 0 at 98
        have eL : L = (sS9 B N (N + 1 - f) f).2 := by rw [eX]
        have eb : (sS9 B N (N + 1 - f) f).1 = (false, p) := by rw [eX]
        rw [eb]
        refine ⟨1, rfl, Or.inr rfl, rfl, tm.c9 (hs_O (by decide)) (hs_O (by decide)) (hs_O (by decide)), fun _ => ⟨?_, ?_, ?_⟩, fun x a b c d e => by rw [hs_O b, fm.1 x a d e, hs_O c], fun q hq => ⟨by rw [hs_k hq, fm.1 366 (by decide) (by decide) (by decide), hs_o (by decide)], by rw [hs_o (by decide), fm.1 367 (by decide) (by decide) (by decide), hs_k hq]⟩, fun q a b c => by rw [hs_o (by decide), fm.2 q a b c, hs_o (by decide)]⟩
        · rw [← eL]; exact rlm.of (hs_O (by decide)) (hs_O (by decide))
        · rw [hs_s, ← eL, List.length_append]; omega
        · rw [hs_o (by decide), fm.1 367 (by decide) (by decide) (by decide), hs_s]
      · obtain ⟨tm, eX, fm⟩ := hj
        rw [eX]
        exact ⟨0, rfl, Or.inl rfl, rfl, tm, fun q => absurd (show true = false from q) (by decide), fun x a b c d e => by rw [fm.1 x a d e, hs_O c], fun q hq => ⟨by rw [fm.1 366 (by decide) (by decide) (by decide), hs_o (by decide)], by rw [fm.1 367 (by decide) (by decide) (by decide), hs_k hq]⟩, fun q a b c => by rw [fm.2 q a b c, hs_o (by decide)]⟩
    · show jT _ _ 10 _ _ _ _
      refine tl_iconst rfl ?_
      refine tl_iret rfl ?_
      -- leaf 2 at 11
      exfalso; omega
