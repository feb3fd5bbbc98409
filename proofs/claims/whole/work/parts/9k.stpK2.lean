/-! recipes: a step read, of the class -/
def FST (k d : Nat) (h h' : jH) : Prop := (∀ x, x ≠ 362 → (x < 365 ∨ x = 369 ∨ 372 < x) → h' x = h x) ∧ (∀ x, 365 ≤ x → x ≤ 368 → ∀ q, q ≠ k → h' x q = h x q) ∧ (∀ q, q ≠ d → h' 372 q = h 372 q) ∧ ∀ q, q ≠ 3 → q ≠ 4 → q ≠ 5 → q ≠ 6 → q ≠ 15 → h' 362 q = h 362 q
theorem FST.fn {k d : Nat} {a b c : jH} (h1 : FST k d a b) (h2 : FN b c) : FST k d a c := ⟨fun x x1 x2 => (h2.1 x x1).trans (h1.1 x x1 x2), fun x x1 x2 q q1 => by rw [h2.1 x (by omega)]; exact h1.2.1 x x1 x2 q q1, fun q q1 => by rw [h2.1 372 (by decide)]; exact h1.2.2.1 q q1, fun q a b c d e => by rw [h2.2 q a b c]; exact h1.2.2.2 q a b c d e⟩
theorem FST.fa {k d z : Nat} {a b c : jH} (hz : 365 ≤ z ∧ z ≤ 368) (h1 : FST k d a b) (h2 : FAx z k b c) : FST k d a c := ⟨fun x x1 x2 => (h2.1 x x1 (by omega)).trans (h1.1 x x1 x2), fun x x1 x2 q q1 => by
    by_cases e : x = z
    · subst e; rw [h2.2.1 q q1]; exact h1.2.1 x x1 x2 q q1
    · rw [h2.1 x (by omega) e]; exact h1.2.1 x x1 x2 q q1, fun q q1 => by rw [h2.1 372 (by decide) (by omega)]; exact h1.2.2.1 q q1, fun q a b c d e => by rw [h2.2.2 q a b c]; exact h1.2.2.2 q a b c d e⟩
theorem FST.s9 {k d z : Nat} {a b : jH} {v : Int} (hz : 365 ≤ z ∧ z ≤ 368) (h1 : FST k d a b) : FST k d a (hs b z k v) := ⟨fun x x1 x2 => by rw [hs_O (by omega)]; exact h1.1 x x1 x2, fun x x1 x2 q q1 => by
    by_cases e : x = z
    · subst e; rw [hs_k q1]; exact h1.2.1 x x1 x2 q q1
    · rw [hs_O e]; exact h1.2.1 x x1 x2 q q1, fun q q1 => by rw [hs_O (by omega)]; exact h1.2.2.1 q q1, fun q a b c d e => by rw [hs_O (by omega)]; exact h1.2.2.2 q a b c d e⟩
def G9 (B : Nat → Int) (N f d k : Nat) (SD : List Int) (h' : jH) : Prop := h' 365 k = kd9 B N f ∧ h' 366 k = vM9 B N f ∧ (kd9 B N f ≠ 4 → h' 367 k = vW9 B N f SD.length) ∧ h' 368 k = vY9 B N f ∧ RL h' 370 371 (SD ++ vS9 B N f) ∧ (kd9 B N f = 4 → h' 372 d = (k : Int) ∧ h' 362 15 = ((d + 1 : Nat) : Int)) ∧ (kd9 B N f ≠ 4 → h' 362 15 = (d : Int))
def PST (B : Nat → Int) (N f d k : Nat) (SD : List Int) (h : jH) (z : Int) (h' : jH) : Prop := z = zn (stp B N f d).1 ∧ TK h' B N (stp B N f d).2 ∧ h' 362 6 = ((k + 1 : Nat) : Int) ∧ FST k d h h' ∧ ((stp B N f d).1 = false → G9 B N f d k SD h')
def M9 (B : Nat → Int) (N f d k : Nat) (SD : List Int) (h m0 : jH) : Prop := FST k d h m0 ∧ TK m0 B N (nx B N f) ∧ m0 368 k = 0 ∧ m0 362 15 = (d : Int) ∧ RL m0 370 371 SD ∧ m0 362 6 = ((k + 1 : Nat) : Int)
theorem sT_e {B : Nat → Int} {N f g : Nat} (h : sT0 B N f = (false, g)) : sT B N f = sB9 B N g := by
  unfold sT sB9
  rw [h]
  by_cases c : wd B N g 2 = true
  · rw [if_pos ⟨rfl, c⟩, if_pos c]
  · rw [if_neg (fun q => c q.2), if_neg c]
theorem sT_b {B : Nat → Int} {N f g : Nat} (h : sT0 B N f = (true, g)) : sT B N f = (true, g) := by
  unfold sT
  rw [h, if_neg (fun q => absurd (show true = false from q.1) (by decide))]
theorem mv3 {B : Nat → Int} {N f : Nat} {t1 t2 t3 : Nat → Bool} : (t1 f = false → mvp B N (mvp B N (mvp B N (false, f) t1) t2) t3 = (true, f)) ∧ (t1 f = true → t2 (nx B N f) = false → mvp B N (mvp B N (mvp B N (false, f) t1) t2) t3 = (true, nx B N f)) ∧ (t1 f = true → t2 (nx B N f) = true → t3 (nx B N (nx B N f)) = false → mvp B N (mvp B N (mvp B N (false, f) t1) t2) t3 = (true, nx B N (nx B N f))) ∧ (t1 f = true → t2 (nx B N f) = true → t3 (nx B N (nx B N f)) = true → mvp B N (mvp B N (mvp B N (false, f) t1) t2) t3 = (false, nx B N (nx B N (nx B N f)))) :=
  ⟨fun a => by rw [mvp_f a, mvp_b, mvp_b], fun a b => by rw [mvp_t a, mvp_f b, mvp_b], fun a b c => by rw [mvp_t a, mvp_t b, mvp_f c], fun a b c => by rw [mvp_t a, mvp_t b, mvp_t c]⟩
theorem stp_0 {B : Nat → Int} {N f d : Nat} (h : kd9 B N f = 0) : stp B N f d = sT B N f := by rw [stp, if_pos h]
theorem stp_1 {B : Nat → Int} {N f d : Nat} (h : kd9 B N f = 1) : stp B N f d = sF9 B N f 4 0 255 := by rw [stp, if_neg (by omega), if_pos h]
theorem stp_2 {B : Nat → Int} {N f d : Nat} (h : kd9 B N f = 2) : stp B N f d = (sSy B N f).1 := by rw [stp, if_neg (by omega), if_neg (by omega), if_pos h]
theorem stp_3 {B : Nat → Int} {N f d : Nat} (h : kd9 B N f = 3) : stp B N f d = sF9 B N f 7 1 64 := by rw [stp, if_neg (by omega), if_neg (by omega), if_neg (by omega), if_pos h]
theorem stp_4 {B : Nat → Int} {N f d : Nat} (h : kd9 B N f = 4) : stp B N f d = sM9 B N f d := by rw [stp, if_neg (by omega), if_neg (by omega), if_neg (by omega), if_neg (by omega), if_pos h]
theorem stp_n {B : Nat → Int} {N f d : Nat} (h : kd9 B N f = -1) : stp B N f d = (true, f) := by rw [stp, if_neg (by omega), if_neg (by omega), if_neg (by omega), if_neg (by omega), if_neg (by omega)]
set_option maxRecDepth 20000 in
set_option maxHeartbeats 1000000 in
theorem k_rst1 (l : Launch) (h : jH) (B : Nat → Int) (N f d k : Nat) (k24 : k < 24) (d4 : d ≤ 4) (SD : List Int) (m0 : jH) (hM : M9 B N f d k SD h m0) (hk9 : kd9 B N f = 1) (P : Option Value → jH → Prop) (hP : ∀ z h', (z = 0 ∨ z = 1) → PST B N f d k SD h z h' → P (some (.int (jI z))) h') : jT l 81 95 [some (.ref 362), some (.int (jI ((k : Int))))] [] m0 P := by
  obtain ⟨f0, t0, y0, d0, r0, s0⟩ := hM
  have fN1 := t0.2.2.2
  refine tl_aload_n rfl rfl ?_
  refine tl_getr (c := 7) (k9 := 7) (b := 365) rfl rfl rfl rfl ?_
  refine tl_iload_n rfl rfl ?_
  refine tl_iconst rfl ?_
  refine tl_iast (n := 24) rfl rfl rfl (by omega) (by omega) ?_
  rw [Int.toNat_natCast]
  refine tl_aload_n rfl rfl ?_
  show jT _ _ 103 _ _ _ _
  refine tl_iload_n rfl rfl ?_
  refine tl_bipush rfl rfl ?_
  refine tl_v2i (c9 := 7) (k_rMany l (hs m0 365 k 1) B N (nx B N f) (t0.c9 (hs_O (by decide)) (hs_O (by decide)) (hs_O (by decide))) k k24 64 (by decide) (by decide)) rfl rfl rfl rfl rfl (Nat.le_of_ble_eq_true rfl) (fun z1 h1 p1 => ?_)
  obtain ⟨e1, t1, v1, g1⟩ := p1
  have b1 := zb_b (nb B N (nx B N f) 1 64)
  subst e1
  have q1 : FST k d h h1 := (f0.s9 (by decide)).fa (by decide) g1
  have c1k : h1 365 k = 1 := by rw [g1.1 365 (by decide) (by decide), hs_s]
  have c1y : h1 368 k = 0 := by rw [g1.1 368 (by decide) (by decide), hs_O (by decide)]; exact y0
  have c1d : h1 362 15 = (d : Int) := by rw [g1.2.2 15 (by decide) (by decide) (by decide), hs_o (by decide)]; exact d0
  have c1s : h1 362 6 = ((k + 1 : Nat) : Int) := by rw [g1.2.2 6 (by decide) (by decide) (by decide), hs_o (by decide)]; exact s0
  have c1r : RL h1 370 371 SD := r0.of (by rw [g1.1 370 (by decide) (by decide), hs_O (by decide)]) (by rw [g1.1 371 (by decide) (by decide), hs_O (by decide)])
  refine tl_if_eq (tgt := 137) rfl rfl ⟨by omega, by omega⟩ (fun c1 => ?_) (fun c1 => ?_)
  · skip
    have a1 := zb0 c1
    rw [st9_f a1] at t1
    refine tl_iconst rfl ?_
    refine tl_iret rfl ?_
    -- leaf 0 at 138
    first
      | (have sp : stp B N f d = (false, (nx B N (nx B N (nx B N (nx B N f))))) := by rw [stp_1 hk9, sF9, mv3.2.2.2 a1 a2 a3]
         refine hP 1 h3 (Or.inr rfl) ⟨by rw [sp]; rfl, by rw [sp]; exact t3, c3s, q3, fun _ => ⟨by rw [c3k, c2k, c1k, hk9], ?_, fun _ => ?_, ?_, ?_, fun z => absurd z (by rw [hk9]; decide), fun _ => c3d⟩⟩
         · rw [c3m, c2m, v1 a1, vM9, if_neg (by rw [hk9]; decide)]
         · rw [v3 a3, vW9, if_neg (by rw [hk9]; decide)]
         · rw [c3y, vY9, if_neg (fun z => absurd z.1 (by rw [hk9]; decide))]
         · rw [vS9, if_neg (by rw [hk9]; decide), List.append_nil]; exact c3r)
      | (exfalso; omega)
      | (have sp : stp B N f d = (true, (nx B N (nx B N (nx B N f)))) := by rw [stp_1 hk9, sF9, mv3.2.2.1 a1 a2 a3]
         exact hP 0 h3 (Or.inl rfl) ⟨by rw [sp]; rfl, by rw [sp]; exact t3, c3s, q3, fun q => by rw [sp] at q; exact absurd (show true = false from q) (by decide)⟩)
      | (have sp : stp B N f d = (true, (nx B N (nx B N f))) := by rw [stp_1 hk9, sF9, mv3.2.1 a1 a2]
         exact hP 0 h2 (Or.inl rfl) ⟨by rw [sp]; rfl, by rw [sp]; exact t2, c2s, q2, fun q => by rw [sp] at q; exact absurd (show true = false from q) (by decide)⟩)
      | (have sp : stp B N f d = (true, (nx B N f)) := by rw [stp_1 hk9, sF9, mv3.1 a1]
         exact hP 0 h1 (Or.inl rfl) ⟨by rw [sp]; rfl, by rw [sp]; exact t1, c1s, q1, fun q => by rw [sp] at q; exact absurd (show true = false from q) (by decide)⟩)
  · show jT _ _ 112 _ _ _ _
    have a1 := zb1' c1
    rw [st9_t a1] at t1
    refine tl_aload_n rfl rfl ?_
    show jT _ _ 113 _ _ _ _
    refine tl_ldcs (q := 4) rfl ?_
    refine tl_v1i (c9 := 7) (k_isWrd l h1 B N (nx B N (nx B N f)) t1 4 (by decide)) rfl rfl rfl rfl rfl (Nat.le_of_ble_eq_true rfl) (fun z2 h2 p2 => ?_)
    obtain ⟨e2, t2, g2, _⟩ := p2
    have b2 := zb_b (wd B N (nx B N (nx B N f)) 4)
    subst e2
    have q2 : FST k d h h2 := q1.fn g2
    have c2k : h2 365 k = h1 365 k := by rw [g2.1 365 (by decide)]
    have c2m : h2 366 k = h1 366 k := by rw [g2.1 366 (by decide)]
    have c2y : h2 368 k = 0 := by rw [g2.1 368 (by decide)]; exact c1y
    have c2d : h2 362 15 = (d : Int) := by rw [g2.2 15 (by decide) (by decide) (by decide)]; exact c1d
    have c2s : h2 362 6 = ((k + 1 : Nat) : Int) := by rw [g2.2 6 (by decide) (by decide) (by decide)]; exact c1s
    have c2r : RL h2 370 371 SD := c1r.of (g2.1 370 (by decide)) (g2.1 371 (by decide))
    refine tl_if_eq (tgt := 137) rfl rfl ⟨by omega, by omega⟩ (fun c2 => ?_) (fun c2 => ?_)
    · skip
      have a2 := zb0 c2
      rw [st9_f a2] at t2
      refine tl_iconst rfl ?_
      refine tl_iret rfl ?_
      -- leaf 1 at 138
      first
        | (have sp : stp B N f d = (false, (nx B N (nx B N (nx B N (nx B N f))))) := by rw [stp_1 hk9, sF9, mv3.2.2.2 a1 a2 a3]
           refine hP 1 h3 (Or.inr rfl) ⟨by rw [sp]; rfl, by rw [sp]; exact t3, c3s, q3, fun _ => ⟨by rw [c3k, c2k, c1k, hk9], ?_, fun _ => ?_, ?_, ?_, fun z => absurd z (by rw [hk9]; decide), fun _ => c3d⟩⟩
           · rw [c3m, c2m, v1 a1, vM9, if_neg (by rw [hk9]; decide)]
           · rw [v3 a3, vW9, if_neg (by rw [hk9]; decide)]
           · rw [c3y, vY9, if_neg (fun z => absurd z.1 (by rw [hk9]; decide))]
           · rw [vS9, if_neg (by rw [hk9]; decide), List.append_nil]; exact c3r)
        | (exfalso; omega)
        | (have sp : stp B N f d = (true, (nx B N (nx B N (nx B N f)))) := by rw [stp_1 hk9, sF9, mv3.2.2.1 a1 a2 a3]
           exact hP 0 h3 (Or.inl rfl) ⟨by rw [sp]; rfl, by rw [sp]; exact t3, c3s, q3, fun q => by rw [sp] at q; exact absurd (show true = false from q) (by decide)⟩)
        | (have sp : stp B N f d = (true, (nx B N (nx B N f))) := by rw [stp_1 hk9, sF9, mv3.2.1 a1 a2]
           exact hP 0 h2 (Or.inl rfl) ⟨by rw [sp]; rfl, by rw [sp]; exact t2, c2s, q2, fun q => by rw [sp] at q; exact absurd (show true = false from q) (by decide)⟩)
        | (have sp : stp B N f d = (true, (nx B N f)) := by rw [stp_1 hk9, sF9, mv3.1 a1]
           exact hP 0 h1 (Or.inl rfl) ⟨by rw [sp]; rfl, by rw [sp]; exact t1, c1s, q1, fun q => by rw [sp] at q; exact absurd (show true = false from q) (by decide)⟩)
    · show jT _ _ 121 _ _ _ _
      have a2 := zb1' c2
      rw [st9_t a2] at t2
      refine tl_aload_n rfl rfl ?_
      refine tl_iload_n rfl rfl ?_
      show jT _ _ 123 _ _ _ _
      refine tl_iconst rfl ?_
      refine tl_sipush rfl rfl ?_
      refine tl_v3i (c9 := 7) (k_rWhat l h2 B N (nx B N (nx B N (nx B N f))) t2 k k24 0 255 (by decide) (by decide) (by decide) (by decide)) rfl rfl rfl rfl rfl (Nat.le_of_ble_eq_true rfl) (fun z3 h3 p3 => ?_)
      obtain ⟨e3, t3, v3, g3⟩ := p3
      have b3 := zb_b (nb B N (nx B N (nx B N (nx B N f))) 0 255)
      subst e3
      have q3 : FST k d h h3 := q2.fa (by decide) g3
      have c3k : h3 365 k = h2 365 k := by rw [g3.1 365 (by decide) (by decide)]
      have c3m : h3 366 k = h2 366 k := by rw [g3.1 366 (by decide) (by decide)]
      have c3y : h3 368 k = 0 := by rw [g3.1 368 (by decide) (by decide)]; exact c2y
      have c3d : h3 362 15 = (d : Int) := by rw [g3.2.2 15 (by decide) (by decide) (by decide)]; exact c2d
      have c3s : h3 362 6 = ((k + 1 : Nat) : Int) := by rw [g3.2.2 6 (by decide) (by decide) (by decide)]; exact c2s
      have c3r : RL h3 370 371 SD := c2r.of (g3.1 370 (by decide) (by decide)) (g3.1 371 (by decide) (by decide))
      refine tl_if_eq (tgt := 137) rfl rfl ⟨by omega, by omega⟩ (fun c3 => ?_) (fun c3 => ?_)
      · skip
        have a3 := zb0 c3
        rw [st9_f a3] at t3
        refine tl_iconst rfl ?_
        refine tl_iret rfl ?_
        -- leaf 2 at 138
        first
          | (have sp : stp B N f d = (false, (nx B N (nx B N (nx B N (nx B N f))))) := by rw [stp_1 hk9, sF9, mv3.2.2.2 a1 a2 a3]
             refine hP 1 h3 (Or.inr rfl) ⟨by rw [sp]; rfl, by rw [sp]; exact t3, c3s, q3, fun _ => ⟨by rw [c3k, c2k, c1k, hk9], ?_, fun _ => ?_, ?_, ?_, fun z => absurd z (by rw [hk9]; decide), fun _ => c3d⟩⟩
             · rw [c3m, c2m, v1 a1, vM9, if_neg (by rw [hk9]; decide)]
             · rw [v3 a3, vW9, if_neg (by rw [hk9]; decide)]
             · rw [c3y, vY9, if_neg (fun z => absurd z.1 (by rw [hk9]; decide))]
             · rw [vS9, if_neg (by rw [hk9]; decide), List.append_nil]; exact c3r)
          | (exfalso; omega)
          | (have sp : stp B N f d = (true, (nx B N (nx B N (nx B N f)))) := by rw [stp_1 hk9, sF9, mv3.2.2.1 a1 a2 a3]
             exact hP 0 h3 (Or.inl rfl) ⟨by rw [sp]; rfl, by rw [sp]; exact t3, c3s, q3, fun q => by rw [sp] at q; exact absurd (show true = false from q) (by decide)⟩)
          | (have sp : stp B N f d = (true, (nx B N (nx B N f))) := by rw [stp_1 hk9, sF9, mv3.2.1 a1 a2]
             exact hP 0 h2 (Or.inl rfl) ⟨by rw [sp]; rfl, by rw [sp]; exact t2, c2s, q2, fun q => by rw [sp] at q; exact absurd (show true = false from q) (by decide)⟩)
          | (have sp : stp B N f d = (true, (nx B N f)) := by rw [stp_1 hk9, sF9, mv3.1 a1]
             exact hP 0 h1 (Or.inl rfl) ⟨by rw [sp]; rfl, by rw [sp]; exact t1, c1s, q1, fun q => by rw [sp] at q; exact absurd (show true = false from q) (by decide)⟩)
      · show jT _ _ 133 _ _ _ _
        have a3 := zb1' c3
        rw [st9_t a3] at t3
        refine tl_iconst rfl ?_
        show jT _ _ 134 _ _ _ _
        refine tl_goto (tgt := 138) rfl rfl ?_
        refine tl_iret rfl ?_
        -- leaf 3 at 138
        first
          | (have sp : stp B N f d = (false, (nx B N (nx B N (nx B N (nx B N f))))) := by rw [stp_1 hk9, sF9, mv3.2.2.2 a1 a2 a3]
             refine hP 1 h3 (Or.inr rfl) ⟨by rw [sp]; rfl, by rw [sp]; exact t3, c3s, q3, fun _ => ⟨by rw [c3k, c2k, c1k, hk9], ?_, fun _ => ?_, ?_, ?_, fun z => absurd z (by rw [hk9]; decide), fun _ => c3d⟩⟩
             · rw [c3m, c2m, v1 a1, vM9, if_neg (by rw [hk9]; decide)]
             · rw [v3 a3, vW9, if_neg (by rw [hk9]; decide)]
             · rw [c3y, vY9, if_neg (fun z => absurd z.1 (by rw [hk9]; decide))]
             · rw [vS9, if_neg (by rw [hk9]; decide), List.append_nil]; exact c3r)
          | (exfalso; omega)
          | (have sp : stp B N f d = (true, (nx B N (nx B N (nx B N f)))) := by rw [stp_1 hk9, sF9, mv3.2.2.1 a1 a2 a3]
             exact hP 0 h3 (Or.inl rfl) ⟨by rw [sp]; rfl, by rw [sp]; exact t3, c3s, q3, fun q => by rw [sp] at q; exact absurd (show true = false from q) (by decide)⟩)
          | (have sp : stp B N f d = (true, (nx B N (nx B N f))) := by rw [stp_1 hk9, sF9, mv3.2.1 a1 a2]
             exact hP 0 h2 (Or.inl rfl) ⟨by rw [sp]; rfl, by rw [sp]; exact t2, c2s, q2, fun q => by rw [sp] at q; exact absurd (show true = false from q) (by decide)⟩)
          | (have sp : stp B N f d = (true, (nx B N f)) := by rw [stp_1 hk9, sF9, mv3.1 a1]
             exact hP 0 h1 (Or.inl rfl) ⟨by rw [sp]; rfl, by rw [sp]; exact t1, c1s, q1, fun q => by rw [sp] at q; exact absurd (show true = false from q) (by decide)⟩)
set_option maxRecDepth 20000 in
set_option maxHeartbeats 1000000 in
theorem k_rst3 (l : Launch) (h : jH) (B : Nat → Int) (N f d k : Nat) (k24 : k < 24) (d4 : d ≤ 4) (SD : List Int) (m0 : jH) (hM : M9 B N f d k SD h m0) (hk9 : kd9 B N f = 3) (P : Option Value → jH → Prop) (hP : ∀ z h', (z = 0 ∨ z = 1) → PST B N f d k SD h z h' → P (some (.int (jI z))) h') : jT l 81 170 [some (.ref 362), some (.int (jI ((k : Int))))] [] m0 P := by
  obtain ⟨f0, t0, y0, d0, r0, s0⟩ := hM
  have fN1 := t0.2.2.2
  refine tl_aload_n rfl rfl ?_
  refine tl_getr (c := 7) (k9 := 7) (b := 365) rfl rfl rfl rfl ?_
  refine tl_iload_n rfl rfl ?_
  refine tl_iconst rfl ?_
  refine tl_iast (n := 24) rfl rfl rfl (by omega) (by omega) ?_
  rw [Int.toNat_natCast]
  refine tl_aload_n rfl rfl ?_
  show jT _ _ 178 _ _ _ _
  refine tl_iload_n rfl rfl ?_
  refine tl_bipush rfl rfl ?_
  refine tl_v2i (c9 := 7) (k_rMany l (hs m0 365 k 3) B N (nx B N f) (t0.c9 (hs_O (by decide)) (hs_O (by decide)) (hs_O (by decide))) k k24 64 (by decide) (by decide)) rfl rfl rfl rfl rfl (Nat.le_of_ble_eq_true rfl) (fun z1 h1 p1 => ?_)
  obtain ⟨e1, t1, v1, g1⟩ := p1
  have b1 := zb_b (nb B N (nx B N f) 1 64)
  subst e1
  have q1 : FST k d h h1 := (f0.s9 (by decide)).fa (by decide) g1
  have c1k : h1 365 k = 3 := by rw [g1.1 365 (by decide) (by decide), hs_s]
  have c1y : h1 368 k = 0 := by rw [g1.1 368 (by decide) (by decide), hs_O (by decide)]; exact y0
  have c1d : h1 362 15 = (d : Int) := by rw [g1.2.2 15 (by decide) (by decide) (by decide), hs_o (by decide)]; exact d0
  have c1s : h1 362 6 = ((k + 1 : Nat) : Int) := by rw [g1.2.2 6 (by decide) (by decide) (by decide), hs_o (by decide)]; exact s0
  have c1r : RL h1 370 371 SD := r0.of (by rw [g1.1 370 (by decide) (by decide), hs_O (by decide)]) (by rw [g1.1 371 (by decide) (by decide), hs_O (by decide)])
  refine tl_if_eq (tgt := 211) rfl rfl ⟨by omega, by omega⟩ (fun c1 => ?_) (fun c1 => ?_)
  · skip
    have a1 := zb0 c1
    rw [st9_f a1] at t1
    refine tl_iconst rfl ?_
    refine tl_iret rfl ?_
    -- leaf 0 at 212
    first
      | (have sp : stp B N f d = (false, (nx B N (nx B N (nx B N (nx B N f))))) := by rw [stp_3 hk9, sF9, mv3.2.2.2 a1 a2 a3]
         refine hP 1 h3 (Or.inr rfl) ⟨by rw [sp]; rfl, by rw [sp]; exact t3, c3s, q3, fun _ => ⟨by rw [c3k, c2k, c1k, hk9], ?_, fun _ => ?_, ?_, ?_, fun z => absurd z (by rw [hk9]; decide), fun _ => c3d⟩⟩
         · rw [c3m, c2m, v1 a1, vM9, if_neg (by rw [hk9]; decide)]
         · rw [v3 a3, vW9, if_neg (by rw [hk9]; decide)]
         · rw [c3y, vY9, if_neg (fun z => absurd z.1 (by rw [hk9]; decide))]
         · rw [vS9, if_neg (by rw [hk9]; decide), List.append_nil]; exact c3r)
      | (exfalso; omega)
      | (have sp : stp B N f d = (true, (nx B N (nx B N (nx B N f)))) := by rw [stp_3 hk9, sF9, mv3.2.2.1 a1 a2 a3]
         exact hP 0 h3 (Or.inl rfl) ⟨by rw [sp]; rfl, by rw [sp]; exact t3, c3s, q3, fun q => by rw [sp] at q; exact absurd (show true = false from q) (by decide)⟩)
      | (have sp : stp B N f d = (true, (nx B N (nx B N f))) := by rw [stp_3 hk9, sF9, mv3.2.1 a1 a2]
         exact hP 0 h2 (Or.inl rfl) ⟨by rw [sp]; rfl, by rw [sp]; exact t2, c2s, q2, fun q => by rw [sp] at q; exact absurd (show true = false from q) (by decide)⟩)
      | (have sp : stp B N f d = (true, (nx B N f)) := by rw [stp_3 hk9, sF9, mv3.1 a1]
         exact hP 0 h1 (Or.inl rfl) ⟨by rw [sp]; rfl, by rw [sp]; exact t1, c1s, q1, fun q => by rw [sp] at q; exact absurd (show true = false from q) (by decide)⟩)
  · show jT _ _ 187 _ _ _ _
    have a1 := zb1' c1
    rw [st9_t a1] at t1
    refine tl_aload_n rfl rfl ?_
    show jT _ _ 188 _ _ _ _
    refine tl_ldcs (q := 7) rfl ?_
    refine tl_v1i (c9 := 7) (k_isWrd l h1 B N (nx B N (nx B N f)) t1 7 (by decide)) rfl rfl rfl rfl rfl (Nat.le_of_ble_eq_true rfl) (fun z2 h2 p2 => ?_)
    obtain ⟨e2, t2, g2, _⟩ := p2
    have b2 := zb_b (wd B N (nx B N (nx B N f)) 7)
    subst e2
    have q2 : FST k d h h2 := q1.fn g2
    have c2k : h2 365 k = h1 365 k := by rw [g2.1 365 (by decide)]
    have c2m : h2 366 k = h1 366 k := by rw [g2.1 366 (by decide)]
    have c2y : h2 368 k = 0 := by rw [g2.1 368 (by decide)]; exact c1y
    have c2d : h2 362 15 = (d : Int) := by rw [g2.2 15 (by decide) (by decide) (by decide)]; exact c1d
    have c2s : h2 362 6 = ((k + 1 : Nat) : Int) := by rw [g2.2 6 (by decide) (by decide) (by decide)]; exact c1s
    have c2r : RL h2 370 371 SD := c1r.of (g2.1 370 (by decide)) (g2.1 371 (by decide))
    refine tl_if_eq (tgt := 211) rfl rfl ⟨by omega, by omega⟩ (fun c2 => ?_) (fun c2 => ?_)
    · skip
      have a2 := zb0 c2
      rw [st9_f a2] at t2
      refine tl_iconst rfl ?_
      refine tl_iret rfl ?_
      -- leaf 1 at 212
      first
        | (have sp : stp B N f d = (false, (nx B N (nx B N (nx B N (nx B N f))))) := by rw [stp_3 hk9, sF9, mv3.2.2.2 a1 a2 a3]
           refine hP 1 h3 (Or.inr rfl) ⟨by rw [sp]; rfl, by rw [sp]; exact t3, c3s, q3, fun _ => ⟨by rw [c3k, c2k, c1k, hk9], ?_, fun _ => ?_, ?_, ?_, fun z => absurd z (by rw [hk9]; decide), fun _ => c3d⟩⟩
           · rw [c3m, c2m, v1 a1, vM9, if_neg (by rw [hk9]; decide)]
           · rw [v3 a3, vW9, if_neg (by rw [hk9]; decide)]
           · rw [c3y, vY9, if_neg (fun z => absurd z.1 (by rw [hk9]; decide))]
           · rw [vS9, if_neg (by rw [hk9]; decide), List.append_nil]; exact c3r)
        | (exfalso; omega)
        | (have sp : stp B N f d = (true, (nx B N (nx B N (nx B N f)))) := by rw [stp_3 hk9, sF9, mv3.2.2.1 a1 a2 a3]
           exact hP 0 h3 (Or.inl rfl) ⟨by rw [sp]; rfl, by rw [sp]; exact t3, c3s, q3, fun q => by rw [sp] at q; exact absurd (show true = false from q) (by decide)⟩)
        | (have sp : stp B N f d = (true, (nx B N (nx B N f))) := by rw [stp_3 hk9, sF9, mv3.2.1 a1 a2]
           exact hP 0 h2 (Or.inl rfl) ⟨by rw [sp]; rfl, by rw [sp]; exact t2, c2s, q2, fun q => by rw [sp] at q; exact absurd (show true = false from q) (by decide)⟩)
        | (have sp : stp B N f d = (true, (nx B N f)) := by rw [stp_3 hk9, sF9, mv3.1 a1]
           exact hP 0 h1 (Or.inl rfl) ⟨by rw [sp]; rfl, by rw [sp]; exact t1, c1s, q1, fun q => by rw [sp] at q; exact absurd (show true = false from q) (by decide)⟩)
    · show jT _ _ 196 _ _ _ _
      have a2 := zb1' c2
      rw [st9_t a2] at t2
      refine tl_aload_n rfl rfl ?_
      refine tl_iload_n rfl rfl ?_
      show jT _ _ 198 _ _ _ _
      refine tl_iconst rfl ?_
      refine tl_bipush rfl rfl ?_
      refine tl_v3i (c9 := 7) (k_rWhat l h2 B N (nx B N (nx B N (nx B N f))) t2 k k24 1 64 (by decide) (by decide) (by decide) (by decide)) rfl rfl rfl rfl rfl (Nat.le_of_ble_eq_true rfl) (fun z3 h3 p3 => ?_)
      obtain ⟨e3, t3, v3, g3⟩ := p3
      have b3 := zb_b (nb B N (nx B N (nx B N (nx B N f))) 1 64)
      subst e3
      have q3 : FST k d h h3 := q2.fa (by decide) g3
      have c3k : h3 365 k = h2 365 k := by rw [g3.1 365 (by decide) (by decide)]
      have c3m : h3 366 k = h2 366 k := by rw [g3.1 366 (by decide) (by decide)]
      have c3y : h3 368 k = 0 := by rw [g3.1 368 (by decide) (by decide)]; exact c2y
      have c3d : h3 362 15 = (d : Int) := by rw [g3.2.2 15 (by decide) (by decide) (by decide)]; exact c2d
      have c3s : h3 362 6 = ((k + 1 : Nat) : Int) := by rw [g3.2.2 6 (by decide) (by decide) (by decide)]; exact c2s
      have c3r : RL h3 370 371 SD := c2r.of (g3.1 370 (by decide) (by decide)) (g3.1 371 (by decide) (by decide))
      refine tl_if_eq (tgt := 211) rfl rfl ⟨by omega, by omega⟩ (fun c3 => ?_) (fun c3 => ?_)
      · skip
        have a3 := zb0 c3
        rw [st9_f a3] at t3
        refine tl_iconst rfl ?_
        refine tl_iret rfl ?_
        -- leaf 2 at 212
        first
          | (have sp : stp B N f d = (false, (nx B N (nx B N (nx B N (nx B N f))))) := by rw [stp_3 hk9, sF9, mv3.2.2.2 a1 a2 a3]
             refine hP 1 h3 (Or.inr rfl) ⟨by rw [sp]; rfl, by rw [sp]; exact t3, c3s, q3, fun _ => ⟨by rw [c3k, c2k, c1k, hk9], ?_, fun _ => ?_, ?_, ?_, fun z => absurd z (by rw [hk9]; decide), fun _ => c3d⟩⟩
             · rw [c3m, c2m, v1 a1, vM9, if_neg (by rw [hk9]; decide)]
             · rw [v3 a3, vW9, if_neg (by rw [hk9]; decide)]
             · rw [c3y, vY9, if_neg (fun z => absurd z.1 (by rw [hk9]; decide))]
             · rw [vS9, if_neg (by rw [hk9]; decide), List.append_nil]; exact c3r)
          | (exfalso; omega)
          | (have sp : stp B N f d = (true, (nx B N (nx B N (nx B N f)))) := by rw [stp_3 hk9, sF9, mv3.2.2.1 a1 a2 a3]
             exact hP 0 h3 (Or.inl rfl) ⟨by rw [sp]; rfl, by rw [sp]; exact t3, c3s, q3, fun q => by rw [sp] at q; exact absurd (show true = false from q) (by decide)⟩)
          | (have sp : stp B N f d = (true, (nx B N (nx B N f))) := by rw [stp_3 hk9, sF9, mv3.2.1 a1 a2]
             exact hP 0 h2 (Or.inl rfl) ⟨by rw [sp]; rfl, by rw [sp]; exact t2, c2s, q2, fun q => by rw [sp] at q; exact absurd (show true = false from q) (by decide)⟩)
          | (have sp : stp B N f d = (true, (nx B N f)) := by rw [stp_3 hk9, sF9, mv3.1 a1]
             exact hP 0 h1 (Or.inl rfl) ⟨by rw [sp]; rfl, by rw [sp]; exact t1, c1s, q1, fun q => by rw [sp] at q; exact absurd (show true = false from q) (by decide)⟩)
      · show jT _ _ 207 _ _ _ _
        have a3 := zb1' c3
        rw [st9_t a3] at t3
        refine tl_iconst rfl ?_
        show jT _ _ 208 _ _ _ _
        refine tl_goto (tgt := 212) rfl rfl ?_
        refine tl_iret rfl ?_
        -- leaf 3 at 212
        first
          | (have sp : stp B N f d = (false, (nx B N (nx B N (nx B N (nx B N f))))) := by rw [stp_3 hk9, sF9, mv3.2.2.2 a1 a2 a3]
             refine hP 1 h3 (Or.inr rfl) ⟨by rw [sp]; rfl, by rw [sp]; exact t3, c3s, q3, fun _ => ⟨by rw [c3k, c2k, c1k, hk9], ?_, fun _ => ?_, ?_, ?_, fun z => absurd z (by rw [hk9]; decide), fun _ => c3d⟩⟩
             · rw [c3m, c2m, v1 a1, vM9, if_neg (by rw [hk9]; decide)]
             · rw [v3 a3, vW9, if_neg (by rw [hk9]; decide)]
             · rw [c3y, vY9, if_neg (fun z => absurd z.1 (by rw [hk9]; decide))]
             · rw [vS9, if_neg (by rw [hk9]; decide), List.append_nil]; exact c3r)
          | (exfalso; omega)
          | (have sp : stp B N f d = (true, (nx B N (nx B N (nx B N f)))) := by rw [stp_3 hk9, sF9, mv3.2.2.1 a1 a2 a3]
             exact hP 0 h3 (Or.inl rfl) ⟨by rw [sp]; rfl, by rw [sp]; exact t3, c3s, q3, fun q => by rw [sp] at q; exact absurd (show true = false from q) (by decide)⟩)
          | (have sp : stp B N f d = (true, (nx B N (nx B N f))) := by rw [stp_3 hk9, sF9, mv3.2.1 a1 a2]
             exact hP 0 h2 (Or.inl rfl) ⟨by rw [sp]; rfl, by rw [sp]; exact t2, c2s, q2, fun q => by rw [sp] at q; exact absurd (show true = false from q) (by decide)⟩)
          | (have sp : stp B N f d = (true, (nx B N f)) := by rw [stp_3 hk9, sF9, mv3.1 a1]
             exact hP 0 h1 (Or.inl rfl) ⟨by rw [sp]; rfl, by rw [sp]; exact t1, c1s, q1, fun q => by rw [sp] at q; exact absurd (show true = false from q) (by decide)⟩)
set_option maxRecDepth 20000 in
set_option maxHeartbeats 1000000 in
theorem k_rst0 (l : Launch) (h : jH) (B : Nat → Int) (N f d k : Nat) (k24 : k < 24) (d4 : d ≤ 4) (SD : List Int) (m0 : jH) (hM : M9 B N f d k SD h m0) (hk9 : kd9 B N f = 0) (P : Option Value → jH → Prop) (hP : ∀ z h', (z = 0 ∨ z = 1) → PST B N f d k SD h z h' → P (some (.int (jI z))) h') : jT l 81 35 [some (.ref 362), some (.int (jI ((k : Int))))] [] m0 P := by
  obtain ⟨f0, t0, y0, d0, r0, s0⟩ := hM
  have fN1 := t0.2.2.2
  refine tl_aload_n rfl rfl ?_
  refine tl_getr (c := 7) (k9 := 7) (b := 365) rfl rfl rfl rfl ?_
  refine tl_iload_n rfl rfl ?_
  refine tl_iconst rfl ?_
  refine tl_iast (n := 24) rfl rfl rfl (by omega) (by omega) ?_
  rw [Int.toNat_natCast]
  refine tl_aload_n rfl rfl ?_
  show jT _ _ 43 _ _ _ _
  refine tl_iload_n rfl rfl ?_
  refine tl_bipush rfl rfl ?_
  refine tl_v2i (c9 := 7) (k_rMany l (hs m0 365 k 0) B N (nx B N f) (t0.c9 (hs_O (by decide)) (hs_O (by decide)) (hs_O (by decide))) k k24 64 (by decide) (by decide)) rfl rfl rfl rfl rfl (Nat.le_of_ble_eq_true rfl) (fun z1 h1 p1 => ?_)
  obtain ⟨e1, t1, v1, g1⟩ := p1
  have b1 := zb_b (nb B N (nx B N f) 1 64)
  subst e1
  have q1 : FST k d h h1 := (f0.s9 (by decide)).fa (by decide) g1
  have c1k : h1 365 k = 0 := by rw [g1.1 365 (by decide) (by decide), hs_s]
  have c1y : h1 368 k = 0 := by rw [g1.1 368 (by decide) (by decide), hs_O (by decide)]; exact y0
  have c1d : h1 362 15 = (d : Int) := by rw [g1.2.2 15 (by decide) (by decide) (by decide), hs_o (by decide)]; exact d0
  have c1s : h1 362 6 = ((k + 1 : Nat) : Int) := by rw [g1.2.2 6 (by decide) (by decide) (by decide), hs_o (by decide)]; exact s0
  have c1r : RL h1 370 371 SD := r0.of (by rw [g1.1 370 (by decide) (by decide), hs_O (by decide)]) (by rw [g1.1 371 (by decide) (by decide), hs_O (by decide)])
  refine tl_if_eq (tgt := 84) rfl rfl ⟨by omega, by omega⟩ (fun c1 => ?_) (fun c1 => ?_)
  · skip
    have a1 := zb0 c1
    rw [st9_f a1] at t1
    refine tl_iconst rfl ?_
    refine tl_iret rfl ?_
    -- leaf 0 at 85
    first
      | (have zt : (sB9 B N (nx B N (nx B N (nx B N (nx B N f))))).1 = false := by rcases zz with q | q; exact absurd q.1 (by omega); exact q.2
         refine hP 1 h4 (Or.inr rfl) ⟨by rw [sp, zt]; rfl, by rw [sp]; exact t4, c4s, q4, fun _ => ⟨by rw [c4k, c3k, c2k, c1k, hk9], ?_, fun _ => ?_, ?_, ?_, fun z => absurd z (by rw [hk9]; decide), fun _ => c4d⟩⟩
         · rw [c4m, c3m, c2m, v1 a1, vM9, if_neg (by rw [hk9]; decide)]
         · rw [c4w, v3 a3, vW9, if_neg (by rw [hk9]; decide)]
         · rw [v4 zt, c3y, vY9]
           by_cases cw9 : wd B N (nx B N (nx B N (nx B N (nx B N f)))) 2 = true
           · rw [if_pos cw9, if_pos ⟨hk9, cw9⟩]
           · rw [if_neg cw9, if_neg (fun z => cw9 z.2)]
         · rw [vS9, if_neg (by rw [hk9]; decide), List.append_nil]; exact c4r)
      | (have zt : (sB9 B N (nx B N (nx B N (nx B N (nx B N f))))).1 = true := by rcases zz with q | q; exact q.2; exact absurd q.1 (by omega)
         exact hP 0 h4 (Or.inl rfl) ⟨by rw [sp, zt]; rfl, by rw [sp]; exact t4, c4s, q4, fun q => by rw [sp, zt] at q; exact absurd q (by decide)⟩)
      | (exfalso; omega)
      | (have sp : stp B N f d = (true, (nx B N (nx B N (nx B N f)))) := by rw [stp_0 hk9]; exact sT_b (by rw [sT0, mv3.2.2.1 a1 a2 a3])
         exact hP 0 h3 (Or.inl rfl) ⟨by rw [sp]; rfl, by rw [sp]; exact t3, c3s, q3, fun q => by rw [sp] at q; exact absurd (show true = false from q) (by decide)⟩)
      | (have sp : stp B N f d = (true, (nx B N (nx B N f))) := by rw [stp_0 hk9]; exact sT_b (by rw [sT0, mv3.2.1 a1 a2])
         exact hP 0 h2 (Or.inl rfl) ⟨by rw [sp]; rfl, by rw [sp]; exact t2, c2s, q2, fun q => by rw [sp] at q; exact absurd (show true = false from q) (by decide)⟩)
      | (have sp : stp B N f d = (true, (nx B N f)) := by rw [stp_0 hk9]; exact sT_b (by rw [sT0, mv3.1 a1])
         exact hP 0 h1 (Or.inl rfl) ⟨by rw [sp]; rfl, by rw [sp]; exact t1, c1s, q1, fun q => by rw [sp] at q; exact absurd (show true = false from q) (by decide)⟩)
  · show jT _ _ 52 _ _ _ _
    have a1 := zb1' c1
    rw [st9_t a1] at t1
    refine tl_aload_n rfl rfl ?_
    show jT _ _ 53 _ _ _ _
    refine tl_ldcs (q := 1) rfl ?_
    refine tl_v1i (c9 := 7) (k_isWrd l h1 B N (nx B N (nx B N f)) t1 1 (by decide)) rfl rfl rfl rfl rfl (Nat.le_of_ble_eq_true rfl) (fun z2 h2 p2 => ?_)
    obtain ⟨e2, t2, g2, _⟩ := p2
    have b2 := zb_b (wd B N (nx B N (nx B N f)) 1)
    subst e2
    have q2 : FST k d h h2 := q1.fn g2
    have c2k : h2 365 k = h1 365 k := by rw [g2.1 365 (by decide)]
    have c2m : h2 366 k = h1 366 k := by rw [g2.1 366 (by decide)]
    have c2y : h2 368 k = 0 := by rw [g2.1 368 (by decide)]; exact c1y
    have c2d : h2 362 15 = (d : Int) := by rw [g2.2 15 (by decide) (by decide) (by decide)]; exact c1d
    have c2s : h2 362 6 = ((k + 1 : Nat) : Int) := by rw [g2.2 6 (by decide) (by decide) (by decide)]; exact c1s
    have c2r : RL h2 370 371 SD := c1r.of (g2.1 370 (by decide)) (g2.1 371 (by decide))
    refine tl_if_eq (tgt := 84) rfl rfl ⟨by omega, by omega⟩ (fun c2 => ?_) (fun c2 => ?_)
    · skip
      have a2 := zb0 c2
      rw [st9_f a2] at t2
      refine tl_iconst rfl ?_
      refine tl_iret rfl ?_
      -- leaf 1 at 85
      first
        | (have zt : (sB9 B N (nx B N (nx B N (nx B N (nx B N f))))).1 = false := by rcases zz with q | q; exact absurd q.1 (by omega); exact q.2
           refine hP 1 h4 (Or.inr rfl) ⟨by rw [sp, zt]; rfl, by rw [sp]; exact t4, c4s, q4, fun _ => ⟨by rw [c4k, c3k, c2k, c1k, hk9], ?_, fun _ => ?_, ?_, ?_, fun z => absurd z (by rw [hk9]; decide), fun _ => c4d⟩⟩
           · rw [c4m, c3m, c2m, v1 a1, vM9, if_neg (by rw [hk9]; decide)]
           · rw [c4w, v3 a3, vW9, if_neg (by rw [hk9]; decide)]
           · rw [v4 zt, c3y, vY9]
             by_cases cw9 : wd B N (nx B N (nx B N (nx B N (nx B N f)))) 2 = true
             · rw [if_pos cw9, if_pos ⟨hk9, cw9⟩]
             · rw [if_neg cw9, if_neg (fun z => cw9 z.2)]
           · rw [vS9, if_neg (by rw [hk9]; decide), List.append_nil]; exact c4r)
        | (have zt : (sB9 B N (nx B N (nx B N (nx B N (nx B N f))))).1 = true := by rcases zz with q | q; exact q.2; exact absurd q.1 (by omega)
           exact hP 0 h4 (Or.inl rfl) ⟨by rw [sp, zt]; rfl, by rw [sp]; exact t4, c4s, q4, fun q => by rw [sp, zt] at q; exact absurd q (by decide)⟩)
        | (exfalso; omega)
        | (have sp : stp B N f d = (true, (nx B N (nx B N (nx B N f)))) := by rw [stp_0 hk9]; exact sT_b (by rw [sT0, mv3.2.2.1 a1 a2 a3])
           exact hP 0 h3 (Or.inl rfl) ⟨by rw [sp]; rfl, by rw [sp]; exact t3, c3s, q3, fun q => by rw [sp] at q; exact absurd (show true = false from q) (by decide)⟩)
        | (have sp : stp B N f d = (true, (nx B N (nx B N f))) := by rw [stp_0 hk9]; exact sT_b (by rw [sT0, mv3.2.1 a1 a2])
           exact hP 0 h2 (Or.inl rfl) ⟨by rw [sp]; rfl, by rw [sp]; exact t2, c2s, q2, fun q => by rw [sp] at q; exact absurd (show true = false from q) (by decide)⟩)
        | (have sp : stp B N f d = (true, (nx B N f)) := by rw [stp_0 hk9]; exact sT_b (by rw [sT0, mv3.1 a1])
           exact hP 0 h1 (Or.inl rfl) ⟨by rw [sp]; rfl, by rw [sp]; exact t1, c1s, q1, fun q => by rw [sp] at q; exact absurd (show true = false from q) (by decide)⟩)
    · show jT _ _ 61 _ _ _ _
      have a2 := zb1' c2
      rw [st9_t a2] at t2
      refine tl_aload_n rfl rfl ?_
      refine tl_iload_n rfl rfl ?_
      show jT _ _ 63 _ _ _ _
      refine tl_iconst rfl ?_
      refine tl_bipush rfl rfl ?_
      refine tl_v3i (c9 := 7) (k_rWhat l h2 B N (nx B N (nx B N (nx B N f))) t2 k k24 0 63 (by decide) (by decide) (by decide) (by decide)) rfl rfl rfl rfl rfl (Nat.le_of_ble_eq_true rfl) (fun z3 h3 p3 => ?_)
      obtain ⟨e3, t3, v3, g3⟩ := p3
      have b3 := zb_b (nb B N (nx B N (nx B N (nx B N f))) 0 63)
      subst e3
      have q3 : FST k d h h3 := q2.fa (by decide) g3
      have c3k : h3 365 k = h2 365 k := by rw [g3.1 365 (by decide) (by decide)]
      have c3m : h3 366 k = h2 366 k := by rw [g3.1 366 (by decide) (by decide)]
      have c3y : h3 368 k = 0 := by rw [g3.1 368 (by decide) (by decide)]; exact c2y
      have c3d : h3 362 15 = (d : Int) := by rw [g3.2.2 15 (by decide) (by decide) (by decide)]; exact c2d
      have c3s : h3 362 6 = ((k + 1 : Nat) : Int) := by rw [g3.2.2 6 (by decide) (by decide) (by decide)]; exact c2s
      have c3r : RL h3 370 371 SD := c2r.of (g3.1 370 (by decide) (by decide)) (g3.1 371 (by decide) (by decide))
      refine tl_if_eq (tgt := 84) rfl rfl ⟨by omega, by omega⟩ (fun c3 => ?_) (fun c3 => ?_)
      · skip
        have a3 := zb0 c3
        rw [st9_f a3] at t3
        refine tl_iconst rfl ?_
        refine tl_iret rfl ?_
        -- leaf 2 at 85
        first
          | (have zt : (sB9 B N (nx B N (nx B N (nx B N (nx B N f))))).1 = false := by rcases zz with q | q; exact absurd q.1 (by omega); exact q.2
             refine hP 1 h4 (Or.inr rfl) ⟨by rw [sp, zt]; rfl, by rw [sp]; exact t4, c4s, q4, fun _ => ⟨by rw [c4k, c3k, c2k, c1k, hk9], ?_, fun _ => ?_, ?_, ?_, fun z => absurd z (by rw [hk9]; decide), fun _ => c4d⟩⟩
             · rw [c4m, c3m, c2m, v1 a1, vM9, if_neg (by rw [hk9]; decide)]
             · rw [c4w, v3 a3, vW9, if_neg (by rw [hk9]; decide)]
             · rw [v4 zt, c3y, vY9]
               by_cases cw9 : wd B N (nx B N (nx B N (nx B N (nx B N f)))) 2 = true
               · rw [if_pos cw9, if_pos ⟨hk9, cw9⟩]
               · rw [if_neg cw9, if_neg (fun z => cw9 z.2)]
             · rw [vS9, if_neg (by rw [hk9]; decide), List.append_nil]; exact c4r)
          | (have zt : (sB9 B N (nx B N (nx B N (nx B N (nx B N f))))).1 = true := by rcases zz with q | q; exact q.2; exact absurd q.1 (by omega)
             exact hP 0 h4 (Or.inl rfl) ⟨by rw [sp, zt]; rfl, by rw [sp]; exact t4, c4s, q4, fun q => by rw [sp, zt] at q; exact absurd q (by decide)⟩)
          | (exfalso; omega)
          | (have sp : stp B N f d = (true, (nx B N (nx B N (nx B N f)))) := by rw [stp_0 hk9]; exact sT_b (by rw [sT0, mv3.2.2.1 a1 a2 a3])
             exact hP 0 h3 (Or.inl rfl) ⟨by rw [sp]; rfl, by rw [sp]; exact t3, c3s, q3, fun q => by rw [sp] at q; exact absurd (show true = false from q) (by decide)⟩)
          | (have sp : stp B N f d = (true, (nx B N (nx B N f))) := by rw [stp_0 hk9]; exact sT_b (by rw [sT0, mv3.2.1 a1 a2])
             exact hP 0 h2 (Or.inl rfl) ⟨by rw [sp]; rfl, by rw [sp]; exact t2, c2s, q2, fun q => by rw [sp] at q; exact absurd (show true = false from q) (by decide)⟩)
          | (have sp : stp B N f d = (true, (nx B N f)) := by rw [stp_0 hk9]; exact sT_b (by rw [sT0, mv3.1 a1])
             exact hP 0 h1 (Or.inl rfl) ⟨by rw [sp]; rfl, by rw [sp]; exact t1, c1s, q1, fun q => by rw [sp] at q; exact absurd (show true = false from q) (by decide)⟩)
      · show jT _ _ 72 _ _ _ _
        have a3 := zb1' c3
        rw [st9_t a3] at t3
        refine tl_aload_n rfl rfl ?_
        show jT _ _ 73 _ _ _ _
        refine tl_iload_n rfl rfl ?_
        refine tl_v1i (c9 := 7) (k_rBy l h3 B N (nx B N (nx B N (nx B N (nx B N f)))) t3 k k24) rfl rfl rfl rfl rfl (Nat.le_of_ble_eq_true rfl) (fun z4 h4 p4 => ?_)
        obtain ⟨e4, t4, v4, g4⟩ := p4
        have q4 : FST k d h h4 := q3.fa (by decide) g4
        have c4k : h4 365 k = h3 365 k := by rw [g4.1 365 (by decide) (by decide)]
        have c4m : h4 366 k = h3 366 k := by rw [g4.1 366 (by decide) (by decide)]
        have c4w : h4 367 k = h3 367 k := by rw [g4.1 367 (by decide) (by decide)]
        have c4d : h4 362 15 = (d : Int) := by rw [g4.2.2 15 (by decide) (by decide) (by decide)]; exact c3d
        have c4s : h4 362 6 = ((k + 1 : Nat) : Int) := by rw [g4.2.2 6 (by decide) (by decide) (by decide)]; exact c3s
        have c4r : RL h4 370 371 SD := c3r.of (g4.1 370 (by decide) (by decide)) (g4.1 371 (by decide) (by decide))
        have sp : stp B N f d = sB9 B N (nx B N (nx B N (nx B N (nx B N f)))) := by rw [stp_0 hk9]; exact sT_e (by rw [sT0, mv3.2.2.2 a1 a2 a3])
        have zz : (z4 = 0 ∧ (sB9 B N (nx B N (nx B N (nx B N (nx B N f))))).1 = true) ∨ (z4 = 1 ∧ (sB9 B N (nx B N (nx B N (nx B N (nx B N f))))).1 = false) := by rw [e4]; cases (sB9 B N (nx B N (nx B N (nx B N (nx B N f))))).1; exact Or.inr ⟨rfl, rfl⟩; exact Or.inl ⟨rfl, rfl⟩
        refine tl_if_eq (tgt := 84) rfl rfl ⟨by omega, by omega⟩ (fun c4 => ?_) (fun c4 => ?_)
        · skip
          refine tl_iconst rfl ?_
          refine tl_iret rfl ?_
          -- leaf 3 at 85
          first
            | (have zt : (sB9 B N (nx B N (nx B N (nx B N (nx B N f))))).1 = false := by rcases zz with q | q; exact absurd q.1 (by omega); exact q.2
               refine hP 1 h4 (Or.inr rfl) ⟨by rw [sp, zt]; rfl, by rw [sp]; exact t4, c4s, q4, fun _ => ⟨by rw [c4k, c3k, c2k, c1k, hk9], ?_, fun _ => ?_, ?_, ?_, fun z => absurd z (by rw [hk9]; decide), fun _ => c4d⟩⟩
               · rw [c4m, c3m, c2m, v1 a1, vM9, if_neg (by rw [hk9]; decide)]
               · rw [c4w, v3 a3, vW9, if_neg (by rw [hk9]; decide)]
               · rw [v4 zt, c3y, vY9]
                 by_cases cw9 : wd B N (nx B N (nx B N (nx B N (nx B N f)))) 2 = true
                 · rw [if_pos cw9, if_pos ⟨hk9, cw9⟩]
                 · rw [if_neg cw9, if_neg (fun z => cw9 z.2)]
               · rw [vS9, if_neg (by rw [hk9]; decide), List.append_nil]; exact c4r)
            | (have zt : (sB9 B N (nx B N (nx B N (nx B N (nx B N f))))).1 = true := by rcases zz with q | q; exact q.2; exact absurd q.1 (by omega)
               exact hP 0 h4 (Or.inl rfl) ⟨by rw [sp, zt]; rfl, by rw [sp]; exact t4, c4s, q4, fun q => by rw [sp, zt] at q; exact absurd q (by decide)⟩)
            | (exfalso; omega)
            | (have sp : stp B N f d = (true, (nx B N (nx B N (nx B N f)))) := by rw [stp_0 hk9]; exact sT_b (by rw [sT0, mv3.2.2.1 a1 a2 a3])
               exact hP 0 h3 (Or.inl rfl) ⟨by rw [sp]; rfl, by rw [sp]; exact t3, c3s, q3, fun q => by rw [sp] at q; exact absurd (show true = false from q) (by decide)⟩)
            | (have sp : stp B N f d = (true, (nx B N (nx B N f))) := by rw [stp_0 hk9]; exact sT_b (by rw [sT0, mv3.2.1 a1 a2])
               exact hP 0 h2 (Or.inl rfl) ⟨by rw [sp]; rfl, by rw [sp]; exact t2, c2s, q2, fun q => by rw [sp] at q; exact absurd (show true = false from q) (by decide)⟩)
            | (have sp : stp B N f d = (true, (nx B N f)) := by rw [stp_0 hk9]; exact sT_b (by rw [sT0, mv3.1 a1])
               exact hP 0 h1 (Or.inl rfl) ⟨by rw [sp]; rfl, by rw [sp]; exact t1, c1s, q1, fun q => by rw [sp] at q; exact absurd (show true = false from q) (by decide)⟩)
        · show jT _ _ 80 _ _ _ _
          refine tl_iconst rfl ?_
          refine tl_goto (tgt := 85) rfl rfl ?_
          show jT _ _ 85 _ _ _ _
          refine tl_iret rfl ?_
          -- leaf 4 at 85
          first
            | (have zt : (sB9 B N (nx B N (nx B N (nx B N (nx B N f))))).1 = false := by rcases zz with q | q; exact absurd q.1 (by omega); exact q.2
               refine hP 1 h4 (Or.inr rfl) ⟨by rw [sp, zt]; rfl, by rw [sp]; exact t4, c4s, q4, fun _ => ⟨by rw [c4k, c3k, c2k, c1k, hk9], ?_, fun _ => ?_, ?_, ?_, fun z => absurd z (by rw [hk9]; decide), fun _ => c4d⟩⟩
               · rw [c4m, c3m, c2m, v1 a1, vM9, if_neg (by rw [hk9]; decide)]
               · rw [c4w, v3 a3, vW9, if_neg (by rw [hk9]; decide)]
               · rw [v4 zt, c3y, vY9]
                 by_cases cw9 : wd B N (nx B N (nx B N (nx B N (nx B N f)))) 2 = true
                 · rw [if_pos cw9, if_pos ⟨hk9, cw9⟩]
                 · rw [if_neg cw9, if_neg (fun z => cw9 z.2)]
               · rw [vS9, if_neg (by rw [hk9]; decide), List.append_nil]; exact c4r)
            | (have zt : (sB9 B N (nx B N (nx B N (nx B N (nx B N f))))).1 = true := by rcases zz with q | q; exact q.2; exact absurd q.1 (by omega)
               exact hP 0 h4 (Or.inl rfl) ⟨by rw [sp, zt]; rfl, by rw [sp]; exact t4, c4s, q4, fun q => by rw [sp, zt] at q; exact absurd q (by decide)⟩)
            | (exfalso; omega)
            | (have sp : stp B N f d = (true, (nx B N (nx B N (nx B N f)))) := by rw [stp_0 hk9]; exact sT_b (by rw [sT0, mv3.2.2.1 a1 a2 a3])
               exact hP 0 h3 (Or.inl rfl) ⟨by rw [sp]; rfl, by rw [sp]; exact t3, c3s, q3, fun q => by rw [sp] at q; exact absurd (show true = false from q) (by decide)⟩)
            | (have sp : stp B N f d = (true, (nx B N (nx B N f))) := by rw [stp_0 hk9]; exact sT_b (by rw [sT0, mv3.2.1 a1 a2])
               exact hP 0 h2 (Or.inl rfl) ⟨by rw [sp]; rfl, by rw [sp]; exact t2, c2s, q2, fun q => by rw [sp] at q; exact absurd (show true = false from q) (by decide)⟩)
            | (have sp : stp B N f d = (true, (nx B N f)) := by rw [stp_0 hk9]; exact sT_b (by rw [sT0, mv3.1 a1])
               exact hP 0 h1 (Or.inl rfl) ⟨by rw [sp]; rfl, by rw [sp]; exact t1, c1s, q1, fun q => by rw [sp] at q; exact absurd (show true = false from q) (by decide)⟩)
set_option maxRecDepth 20000 in
set_option maxHeartbeats 1000000 in
theorem k_rst4 (l : Launch) (h : jH) (B : Nat → Int) (N f d k : Nat) (k24 : k < 24) (d4 : d ≤ 4) (SD : List Int) (m0 : jH) (hM : M9 B N f d k SD h m0) (hk9 : kd9 B N f = 4) (P : Option Value → jH → Prop) (hP : ∀ z h', (z = 0 ∨ z = 1) → PST B N f d k SD h z h' → P (some (.int (jI z))) h') : jT l 81 222 [some (.ref 362), some (.int (jI ((k : Int))))] [] m0 P := by
  obtain ⟨f0, t0, y0, d0, r0, s0⟩ := hM
  have fN1 := t0.2.2.2
  refine tl_aload_n rfl rfl ?_
  refine tl_getr (c := 7) (k9 := 7) (b := 365) rfl rfl rfl rfl ?_
  refine tl_iload_n rfl rfl ?_
  refine tl_iconst rfl ?_
  refine tl_iast (n := 24) rfl rfl rfl (by omega) (by omega) ?_
  rw [Int.toNat_natCast]
  refine tl_aload_n rfl rfl ?_
  show jT _ _ 230 _ _ _ _
  refine tl_iload_n rfl rfl ?_
  refine tl_bipush rfl rfl ?_
  refine tl_v2i (c9 := 7) (k_rMany l (hs m0 365 k 4) B N (nx B N f) (t0.c9 (hs_O (by decide)) (hs_O (by decide)) (hs_O (by decide))) k k24 9 (by decide) (by decide)) rfl rfl rfl rfl rfl (Nat.le_of_ble_eq_true rfl) (fun z1 h1 p1 => ?_)
  obtain ⟨e1, t1, v1, g1⟩ := p1
  have b1 := zb_b (nb B N (nx B N f) 1 9)
  subst e1
  have q1 : FST k d h h1 := (f0.s9 (by decide)).fa (by decide) g1
  have c1k : h1 365 k = 4 := by rw [g1.1 365 (by decide) (by decide), hs_s]
  have c1y : h1 368 k = 0 := by rw [g1.1 368 (by decide) (by decide), hs_O (by decide)]; exact y0
  have c1d : h1 362 15 = (d : Int) := by rw [g1.2.2 15 (by decide) (by decide) (by decide), hs_o (by decide)]; exact d0
  have c1s : h1 362 6 = ((k + 1 : Nat) : Int) := by rw [g1.2.2 6 (by decide) (by decide) (by decide), hs_o (by decide)]; exact s0
  have c1r : RL h1 370 371 SD := r0.of (by rw [g1.1 370 (by decide) (by decide), hs_O (by decide)]) (by rw [g1.1 371 (by decide) (by decide), hs_O (by decide)])
  refine tl_if_eq (tgt := 251) rfl rfl ⟨by omega, by omega⟩ (fun c1 => ?_) (fun c1 => ?_)
  · skip
    have a1 := zb0 c1
    rw [st9_f a1] at t1
    refine tl_iconst rfl ?_
    refine tl_iret rfl ?_
    -- leaf 0 at 252
    first
      | (have sp : stp B N f d = (false, (nx B N (nx B N (nx B N f)))) := by rw [stp_4 hk9, sM9, mvp_t a1, mvp_t a2]
         refine hP 1 h2 (Or.inr rfl) ⟨by rw [sp]; rfl, by rw [sp]; exact t2, c2s, q2, fun _ => ⟨by rw [g2 365 (by decide) (by decide), c1k, hk9], ?_, fun z => absurd hk9 z, ?_, ?_, fun _ => v2 a2, fun z => absurd hk9 z⟩⟩
         · rw [g2 366 (by decide) (by decide), v1 a1, vM9, if_neg (by rw [hk9]; decide)]
         · rw [g2 368 (by decide) (by decide), c1y, vY9, if_neg (fun z => absurd z.1 (by rw [hk9]; decide))]
         · rw [vS9, if_neg (by rw [hk9]; decide), List.append_nil]; exact c1r.of (g2 370 (by decide) (by decide)) (g2 371 (by decide) (by decide)))
      | (have sp : stp B N f d = (true, (nx B N (nx B N f))) := by rw [stp_4 hk9, sM9, mvp_t a1, mvp_f a2]
         exact hP 0 h2 (Or.inl rfl) ⟨by rw [sp]; rfl, by rw [sp]; exact t2, c2s, q2, fun q => by rw [sp] at q; exact absurd (show true = false from q) (by decide)⟩)
      | (have sp : stp B N f d = (true, (nx B N f)) := by rw [stp_4 hk9, sM9, mvp_f a1, mvp_b]
         exact hP 0 h1 (Or.inl rfl) ⟨by rw [sp]; rfl, by rw [sp]; exact t1, c1s, q1, fun q => by rw [sp] at q; exact absurd (show true = false from q) (by decide)⟩)
  · show jT _ _ 239 _ _ _ _
    have a1 := zb1' c1
    rw [st9_t a1] at t1
    refine tl_aload_n rfl rfl ?_
    show jT _ _ 240 _ _ _ _
    refine tl_iload_n rfl rfl ?_
    refine tl_v1i (c9 := 7) (k_openBr l h1 B N (nx B N (nx B N f)) t1 k k24 d d4 c1d) rfl rfl rfl rfl rfl (Nat.le_of_ble_eq_true rfl) (fun z2 h2 p2 => ?_)
    obtain ⟨e2, t2, v2, g2, g2b, g2c⟩ := p2
    have b2 := zb_b (sg B N (nx B N (nx B N f)) 40 && decide (d < 4))
    subst e2
    have q2 : FST k d h h2 := ⟨fun x x1 x2 => by rw [g2 x x1 (by omega)]; exact q1.1 x x1 x2, fun x x1 x2 q q9 => by rw [g2 x (by omega) (by omega)]; exact q1.2.1 x x1 x2 q q9, fun q q9 => by rw [g2b q q9]; exact q1.2.2.1 q q9, fun q a b c d9 e => by rw [g2c q a b c e]; exact q1.2.2.2 q a b c d9 e⟩
    have c2s : h2 362 6 = ((k + 1 : Nat) : Int) := by rw [g2c 6 (by decide) (by decide) (by decide) (by decide)]; exact c1s
    refine tl_if_eq (tgt := 251) rfl rfl ⟨by omega, by omega⟩ (fun c2 => ?_) (fun c2 => ?_)
    · skip
      have a2 := zb0 c2
      rw [st9_f a2] at t2
      refine tl_iconst rfl ?_
      refine tl_iret rfl ?_
      -- leaf 1 at 252
      first
        | (have sp : stp B N f d = (false, (nx B N (nx B N (nx B N f)))) := by rw [stp_4 hk9, sM9, mvp_t a1, mvp_t a2]
           refine hP 1 h2 (Or.inr rfl) ⟨by rw [sp]; rfl, by rw [sp]; exact t2, c2s, q2, fun _ => ⟨by rw [g2 365 (by decide) (by decide), c1k, hk9], ?_, fun z => absurd hk9 z, ?_, ?_, fun _ => v2 a2, fun z => absurd hk9 z⟩⟩
           · rw [g2 366 (by decide) (by decide), v1 a1, vM9, if_neg (by rw [hk9]; decide)]
           · rw [g2 368 (by decide) (by decide), c1y, vY9, if_neg (fun z => absurd z.1 (by rw [hk9]; decide))]
           · rw [vS9, if_neg (by rw [hk9]; decide), List.append_nil]; exact c1r.of (g2 370 (by decide) (by decide)) (g2 371 (by decide) (by decide)))
        | (have sp : stp B N f d = (true, (nx B N (nx B N f))) := by rw [stp_4 hk9, sM9, mvp_t a1, mvp_f a2]
           exact hP 0 h2 (Or.inl rfl) ⟨by rw [sp]; rfl, by rw [sp]; exact t2, c2s, q2, fun q => by rw [sp] at q; exact absurd (show true = false from q) (by decide)⟩)
        | (have sp : stp B N f d = (true, (nx B N f)) := by rw [stp_4 hk9, sM9, mvp_f a1, mvp_b]
           exact hP 0 h1 (Or.inl rfl) ⟨by rw [sp]; rfl, by rw [sp]; exact t1, c1s, q1, fun q => by rw [sp] at q; exact absurd (show true = false from q) (by decide)⟩)
    · show jT _ _ 247 _ _ _ _
      have a2 := zb1' c2
      rw [st9_t a2] at t2
      refine tl_iconst rfl ?_
      refine tl_goto (tgt := 252) rfl rfl ?_
      show jT _ _ 252 _ _ _ _
      refine tl_iret rfl ?_
      -- leaf 2 at 252
      first
        | (have sp : stp B N f d = (false, (nx B N (nx B N (nx B N f)))) := by rw [stp_4 hk9, sM9, mvp_t a1, mvp_t a2]
           refine hP 1 h2 (Or.inr rfl) ⟨by rw [sp]; rfl, by rw [sp]; exact t2, c2s, q2, fun _ => ⟨by rw [g2 365 (by decide) (by decide), c1k, hk9], ?_, fun z => absurd hk9 z, ?_, ?_, fun _ => v2 a2, fun z => absurd hk9 z⟩⟩
           · rw [g2 366 (by decide) (by decide), v1 a1, vM9, if_neg (by rw [hk9]; decide)]
           · rw [g2 368 (by decide) (by decide), c1y, vY9, if_neg (fun z => absurd z.1 (by rw [hk9]; decide))]
           · rw [vS9, if_neg (by rw [hk9]; decide), List.append_nil]; exact c1r.of (g2 370 (by decide) (by decide)) (g2 371 (by decide) (by decide)))
        | (have sp : stp B N f d = (true, (nx B N (nx B N f))) := by rw [stp_4 hk9, sM9, mvp_t a1, mvp_f a2]
           exact hP 0 h2 (Or.inl rfl) ⟨by rw [sp]; rfl, by rw [sp]; exact t2, c2s, q2, fun q => by rw [sp] at q; exact absurd (show true = false from q) (by decide)⟩)
        | (have sp : stp B N f d = (true, (nx B N f)) := by rw [stp_4 hk9, sM9, mvp_f a1, mvp_b]
           exact hP 0 h1 (Or.inl rfl) ⟨by rw [sp]; rfl, by rw [sp]; exact t1, c1s, q1, fun q => by rw [sp] at q; exact absurd (show true = false from q) (by decide)⟩)
set_option maxRecDepth 20000 in
set_option maxHeartbeats 1000000 in
theorem k_rst2 (l : Launch) (h : jH) (B : Nat → Int) (N f d k : Nat) (k24 : k < 24) (d4 : d ≤ 4) (SD : List Int) (m0 : jH) (hM : M9 B N f d k SD h m0) (bd : SD.length ≤ nx B N f) (hk9 : kd9 B N f = 2) (P : Option Value → jH → Prop) (hP : ∀ z h', (z = 0 ∨ z = 1) → PST B N f d k SD h z h' → P (some (.int (jI z))) h') : jT l 81 148 [some (.ref 362), some (.int (jI ((k : Int))))] [] m0 P := by
  obtain ⟨f0, t0, y0, d0, r0, s0⟩ := hM
  have fN1 := t0.2.2.2
  refine tl_aload_n rfl rfl ?_
  refine tl_getr (c := 7) (k9 := 7) (b := 365) rfl rfl rfl rfl ?_
  refine tl_iload_n rfl rfl ?_
  refine tl_iconst rfl ?_
  refine tl_iast (n := 24) rfl rfl rfl (by omega) (by omega) ?_
  rw [Int.toNat_natCast]
  refine tl_aload_n rfl rfl ?_
  show jT _ _ 156 _ _ _ _
  refine tl_iload_n rfl rfl ?_
  refine tl_v1i (c9 := 7) (k_rSaid l (hs m0 365 k 2) B N (nx B N f) (t0.c9 (hs_O (by decide)) (hs_O (by decide)) (hs_O (by decide))) k k24 SD (r0.of (hs_O (by decide)) (hs_O (by decide))) bd) rfl rfl rfl rfl rfl (Nat.le_of_ble_eq_true rfl) (fun z1 h1 p1 => ?_)
  obtain ⟨e1, t1, v1, g1, g2, g3⟩ := p1
  refine tl_iret rfl ?_
  -- leaf 0 at 160
  have sp : stp B N f d = (sSy B N f).1 := stp_2 hk9
  change z1 = zn (sSy B N f).1.1 at e1
  change TK h1 B N (sSy B N f).1.2 at t1
  change (sSy B N f).1.1 = false → RL h1 370 371 (SD ++ (sSy B N f).2) ∧ h1 366 k = ((sSy B N f).2.length : Int) ∧ h1 367 k = (SD.length : Int) at v1
  refine hP z1 h1 (by rw [e1]; cases (sSy B N f).1.1; exact Or.inr rfl; exact Or.inl rfl) ⟨by rw [sp]; exact e1, by rw [sp]; exact t1, by rw [g3 6 (by decide) (by decide) (by decide), hs_o (by decide)]; exact s0, ?_, fun q => ?_⟩
  · refine ⟨fun x x1 x2 => by rw [g1 x x1 (by omega) (by omega) (by omega) (by omega), hs_O (by omega)]; exact f0.1 x x1 x2, fun x x1 x2 q q9 => ?_, fun q q9 => by rw [g1 372 (by decide) (by decide) (by decide) (by decide) (by decide), hs_O (by decide)]; exact f0.2.2.1 q q9, fun q a b c d9 e => by rw [g3 q a b c, hs_o (by decide)]; exact f0.2.2.2 q a b c d9 e⟩
    by_cases e6 : x = 366
    · subst e6; rw [(g2 q q9).1, hs_o (by decide)]; exact f0.2.1 366 x1 x2 q q9
    · by_cases e7 : x = 367
      · subst e7; rw [(g2 q q9).2, hs_o (by decide)]; exact f0.2.1 367 x1 x2 q q9
      · rw [g1 x (by omega) e6 e7 (by omega) (by omega)]
        by_cases e5 : x = 365
        · subst e5; rw [hs_k q9]; exact f0.2.1 365 x1 x2 q q9
        · rw [hs_O e5]; exact f0.2.1 x x1 x2 q q9
  · rw [sp] at q
    have v := v1 q
    refine ⟨by rw [g1 365 (by decide) (by decide) (by decide) (by decide) (by decide), hs_s, hk9], by rw [v.2.1, vM9, if_pos hk9], fun _ => by rw [v.2.2, vW9, if_pos hk9], ?_, by rw [vS9, if_pos hk9]; exact v.1, fun z => absurd z (by rw [hk9]; decide), fun _ => by rw [g3 15 (by decide) (by decide) (by decide), hs_o (by decide)]; exact d0⟩
    rw [g1 368 (by decide) (by decide) (by decide) (by decide) (by decide), hs_O (by decide), y0, vY9, if_neg (fun z => absurd z.1 (by rw [hk9]; decide))]
set_option maxRecDepth 20000 in
set_option maxHeartbeats 1000000 in
theorem k_readStep (l : Launch) (h : jH) (B : Nat → Int) (N f d k : Nat) (tk : TK h B N f) (k24 : k < 24) (d4 : d ≤ 4) (ed : h 362 15 = (d : Int)) (SD : List Int) (rl : RL h 370 371 SD) (bd : SD.length ≤ f) : cI l 81 [.ref 362, .int (jI (k : Int))] h (PST B N f d k SD h) := by
  have fN := tk.2.2.2
  have f00 : FST k d h (hs (hs h 362 6 ((k : Int) + 1)) 368 k 0) := ⟨fun x x1 x2 => by rw [hs_O (by omega), hs_O x1], fun x x1 x2 q q1 => by
    by_cases e : x = 368
    · subst e; rw [hs_k q1, hs_o (by decide)]
    · rw [hs_O e, hs_O (by omega)], fun q q1 => by rw [hs_o (by decide), hs_o (by decide)], fun q a b c d9 e => by rw [hs_o (by decide), hs_k d9]⟩
  have tk0 : TK (hs (hs h 362 6 ((k : Int) + 1)) 368 k 0) B N f := ⟨⟨by rw [hs_o (by decide), hs_o (by decide)]; exact tk.1.1, fun i hi => by rw [hs_o (by decide), hs_o (by decide)]; exact tk.1.2.1 i hi, tk.1.2.2⟩, by rw [hs_o (by decide), hs_k (by decide)]; exact tk.2.1, by rw [hs_o (by decide), hs_k (by decide)]; exact tk.2.2.1, tk.2.2.2⟩
  have mm : ∀ m, FN (hs (hs h 362 6 ((k : Int) + 1)) 368 k 0) m → TK m B N (nx B N f) → M9 B N f d k SD h m := fun m g t => ⟨f00.fn g, t, by rw [g.1 368 (by decide), hs_s], by rw [g.2 15 (by decide) (by decide) (by decide), hs_o (by decide), hs_k (by decide)]; exact ed, rl.of (by rw [g.1 370 (by decide), hs_O (by decide), hs_O (by decide)]) (by rw [g.1 371 (by decide), hs_O (by decide), hs_O (by decide)]), by rw [g.2 6 (by decide) (by decide) (by decide), hs_o (by decide), hs_s]; omega⟩
  refine cI.ofZ rfl rfl ?_
  refine tl_iload_n rfl rfl ?_
  refine tl_if_lt (tgt := 10) rfl rfl ⟨by omega, by omega⟩ (fun c1 => ?_) (fun c1 => ?_)
  · skip
    refine tl_iconst rfl ?_
    refine tl_iret rfl ?_
    -- leaf 0 at 11
    exfalso; omega
  · show jT _ _ 4 _ _ _ _
    refine tl_iload_n rfl rfl ?_
    refine tl_bipush rfl rfl ?_
    show jT _ _ 7 _ _ _ _
    refine tl_icmp_lt (tgt := 12) rfl rfl ⟨by omega, by omega⟩ ⟨by omega, by omega⟩ (fun c2 => ?_) (fun c2 => ?_)
    · skip
      refine tl_aload_n rfl rfl ?_
      refine tl_iload_n rfl rfl ?_
      refine tl_iconst rfl ?_
      refine tl_iadd rfl ?_
      refine tl_puti (c := 7) (k9 := 6) rfl rfl rfl rfl ?_
      refine tl_aload_n rfl rfl ?_
      show jT _ _ 20 _ _ _ _
      refine tl_getr (c := 7) (k9 := 10) (b := 368) rfl rfl rfl rfl ?_
      refine tl_iload_n rfl rfl ?_
      refine tl_iconst rfl ?_
      refine tl_iast (n := 24) rfl rfl rfl (by omega) (by omega) ?_
      rw [Int.toNat_natCast]
      refine tl_aload_n rfl rfl ?_
      refine tl_ldcs (q := 0) rfl ?_
      refine tl_v1i (c9 := 7) (k_isWrd l (hs (hs h 362 6 ((k : Int) + 1)) 368 k 0) B N f tk0 0 (by decide)) rfl rfl rfl rfl rfl (Nat.le_of_ble_eq_true rfl) (fun z1 h1 p1 => ?_)
      obtain ⟨e1, t1, w1, _⟩ := p1
      have b1 := zb_b (wd B N f 0)
      subst e1
      have g1 : FN (hs (hs h 362 6 ((k : Int) + 1)) 368 k 0) h1 := w1
      show jT _ _ 32 _ _ _ _
      refine tl_if_eq (tgt := 86) rfl rfl ⟨by omega, by omega⟩ (fun c3 => ?_) (fun c3 => ?_)
      · skip
        have a1 := zb0 c3
        rw [st9_f a1] at t1
        refine tl_aload_n rfl rfl ?_
        refine tl_ldcs (q := 3) rfl ?_
        refine tl_v1i (c9 := 7) (k_isWrd l h1 B N f t1 3 (by decide)) rfl rfl rfl rfl rfl (Nat.le_of_ble_eq_true rfl) (fun z2 h2 p2 => ?_)
        obtain ⟨e2, t2, w2, _⟩ := p2
        have b2 := zb_b (wd B N f 3)
        subst e2
        have g2 : FN (hs (hs h 362 6 ((k : Int) + 1)) 368 k 0) h2 := g1.trans w2
        refine tl_if_eq (tgt := 139) rfl rfl ⟨by omega, by omega⟩ (fun c4 => ?_) (fun c4 => ?_)
        · skip
          have a2 := zb0 c4
          rw [st9_f a2] at t2
          refine tl_aload_n rfl rfl ?_
          refine tl_ldcs (q := 5) rfl ?_
          show jT _ _ 142 _ _ _ _
          refine tl_v1i (c9 := 7) (k_isWrd l h2 B N f t2 5 (by decide)) rfl rfl rfl rfl rfl (Nat.le_of_ble_eq_true rfl) (fun z3 h3 p3 => ?_)
          obtain ⟨e3, t3, w3, _⟩ := p3
          have b3 := zb_b (wd B N f 5)
          subst e3
          have g3 : FN (hs (hs h 362 6 ((k : Int) + 1)) 368 k 0) h3 := g2.trans w3
          refine tl_if_eq (tgt := 161) rfl rfl ⟨by omega, by omega⟩ (fun c5 => ?_) (fun c5 => ?_)
          · skip
            have a3 := zb0 c5
            rw [st9_f a3] at t3
            refine tl_aload_n rfl rfl ?_
            refine tl_ldcs (q := 6) rfl ?_
            refine tl_v1i (c9 := 7) (k_isWrd l h3 B N f t3 6 (by decide)) rfl rfl rfl rfl rfl (Nat.le_of_ble_eq_true rfl) (fun z4 h4 p4 => ?_)
            obtain ⟨e4, t4, w4, _⟩ := p4
            have b4 := zb_b (wd B N f 6)
            subst e4
            have g4 : FN (hs (hs h 362 6 ((k : Int) + 1)) 368 k 0) h4 := g3.trans w4
            refine tl_if_eq (tgt := 213) rfl rfl ⟨by omega, by omega⟩ (fun c6 => ?_) (fun c6 => ?_)
            · skip
              have a4 := zb0 c6
              rw [st9_f a4] at t4
              refine tl_aload_n rfl rfl ?_
              show jT _ _ 214 _ _ _ _
              refine tl_ldcs (q := 8) rfl ?_
              refine tl_v1i (c9 := 7) (k_isWrd l h4 B N f t4 8 (by decide)) rfl rfl rfl rfl rfl (Nat.le_of_ble_eq_true rfl) (fun z5 h5 p5 => ?_)
              obtain ⟨e5, t5, w5, _⟩ := p5
              have b5 := zb_b (wd B N f 8)
              subst e5
              have g5 : FN (hs (hs h 362 6 ((k : Int) + 1)) 368 k 0) h5 := g4.trans w5
              refine tl_if_eq (tgt := 253) rfl rfl ⟨by omega, by omega⟩ (fun c7 => ?_) (fun c7 => ?_)
              · skip
                have a5 := zb0 c7
                rw [st9_f a5] at t5
                refine tl_iconst rfl ?_
                refine tl_iret rfl ?_
                -- leaf 1 at 254
                have sp : stp B N f d = (true, f) := stp_n (by rw [kd9, if_neg (by rw [a1]; decide), if_neg (by rw [a2]; decide), if_neg (by rw [a3]; decide), if_neg (by rw [a4]; decide), if_neg (by rw [a5]; decide)])
                exact ⟨0, rfl, Or.inl rfl, by rw [sp]; rfl, by rw [sp]; exact t5, by rw [g5.2 6 (by decide) (by decide) (by decide), hs_o (by decide), hs_s]; omega, f00.fn g5, fun q => by rw [sp] at q; exact absurd (show true = false from q) (by decide)⟩
              · show jT _ _ 222 _ _ _ _
                have a5 := zb1' c7
                show jT _ _ 222 _ _ _ _
                -- leaf 2 at 222
                refine k_rst4 l h B N f d k k24 d4 SD h5 (mm h5 g5 (by rw [st9_t a5] at t5; exact t5)) (by rw [kd9, if_neg (by rw [a1]; decide), if_neg (by rw [a2]; decide), if_neg (by rw [a3]; decide), if_neg (by rw [a4]; decide), if_pos a5]) _ (fun z h9 hz hp => ⟨z, rfl, hz, hp⟩)
            · show jT _ _ 170 _ _ _ _
              have a4 := zb1' c6
              show jT _ _ 170 _ _ _ _
              -- leaf 3 at 170
              refine k_rst3 l h B N f d k k24 d4 SD h4 (mm h4 g4 (by rw [st9_t a4] at t4; exact t4)) (by rw [kd9, if_neg (by rw [a1]; decide), if_neg (by rw [a2]; decide), if_neg (by rw [a3]; decide), if_pos a4]) _ (fun z h9 hz hp => ⟨z, rfl, hz, hp⟩)
          · show jT _ _ 148 _ _ _ _
            have a3 := zb1' c5
            show jT _ _ 148 _ _ _ _
            -- leaf 4 at 148
            refine k_rst2 l h B N f d k k24 d4 SD h3 (mm h3 g3 (by rw [st9_t a3] at t3; exact t3)) (by have := nx_b (B := B) fN; omega) (by rw [kd9, if_neg (by rw [a1]; decide), if_neg (by rw [a2]; decide), if_pos a3]) _ (fun z h9 hz hp => ⟨z, rfl, hz, hp⟩)
        · show jT _ _ 95 _ _ _ _
          have a2 := zb1' c4
          show jT _ _ 95 _ _ _ _
          -- leaf 5 at 95
          refine k_rst1 l h B N f d k k24 d4 SD h2 (mm h2 g2 (by rw [st9_t a2] at t2; exact t2)) (by rw [kd9, if_neg (by rw [a1]; decide), if_pos a2]) _ (fun z h9 hz hp => ⟨z, rfl, hz, hp⟩)
      · show jT _ _ 35 _ _ _ _
        have a1 := zb1' c3
        show jT _ _ 35 _ _ _ _
        -- leaf 6 at 35
        refine k_rst0 l h B N f d k k24 d4 SD h1 (mm h1 g1 (by rw [st9_t a1] at t1; exact t1)) (by rw [kd9, if_pos a1]) _ (fun z h9 hz hp => ⟨z, rfl, hz, hp⟩)
    · show jT _ _ 10 _ _ _ _
      refine tl_iconst rfl ?_
      refine tl_iret rfl ?_
      -- leaf 7 at 11
      exfalso; omega
