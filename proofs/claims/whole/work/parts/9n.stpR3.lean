/-! recipes: a step read, of the reference: all kinds -/
theorem RTx.fld {h : jH} {B : Nat → Int} {N f : Nat} {b : Bool} {q : Nat} {v : Int} (k3 : RTx h B N b f) (hq : q < 55 ∨ 60 < q) (h8 : q ≠ 8) : RTx (hs h 388 q v) B N b f := ⟨⟨⟨by rw [hs_k (Ne.symm h8)]; exact k3.1.1.1, fun i hi => by rw [hs_O (by decide)]; exact k3.1.1.2.1 i hi, k3.1.1.2.2⟩, by rw [hs_k (by omega)]; exact k3.1.2.1, by rw [hs_k (by omega)]; exact k3.1.2.2.1, by rw [hs_k (by omega)]; exact k3.1.2.2.2.1, by rw [hs_k (by omega)]; exact k3.1.2.2.2.2.1, k3.N9⟩, by rw [hs_k (by omega)]; exact k3.2.1, fun z => by rw [hs_k (by omega)]; exact k3.2.2.1 z, fun z => by rw [hs_k (by omega)]; exact k3.2.2.2 z⟩
def wk9 (i : Nat) : Nat := [0, 3, 5, 6, 8].getD i 0
theorem wk9_e : ∀ i, i < 5 → wk9 i < 9 ∧ cw (wk9 i) (sI (wk9 i)).length = jhd i ∧ -1 ≤ jhd i ∧ jhd i < 1125899906842624 := by decide +kernel
theorem wk9_u : ∀ i, i < 5 → ∀ j, j < 5 → jhd i = jhd j → i = j := by decide +kernel
def hd9 (B : Nat → Int) (N f : Nat) : Nat → Int
  | 0 => -1
  | i + 1 => if wd B N f (wk9 i) = true then (i : Int) else hd9 B N f i
theorem hd9_r {B : Nat → Int} {N f : Nat} : ∀ i, -1 ≤ hd9 B N f i ∧ hd9 B N f i ≤ (i : Int) := by
  intro i
  induction i with
  | zero => show (-1 : Int) ≤ -1 ∧ (-1 : Int) ≤ ((0 : Nat) : Int); decide
  | succ i ih => rw [hd9]; split <;> omega
theorem wd_u {B : Nat → Int} {N f i j : Nat} (hf : f ≤ N) (hi : i < 5) (hj : j < 5) (a : wd B N f (wk9 i) = true) (b : wd B N f (wk9 j) = true) : i = j := by
  have ei := wk9_e i hi
  have ej := wk9_e j hj
  have a2 := ((wd_e hf ei.1).mp a).2
  have b2 := ((wd_e hf ej.1).mp b).2
  exact wk9_u i hi j hj (by rw [← ei.2.1, ← ej.2.1, ← a2, ← b2])
theorem hd9_5 {B : Nat → Int} {N f : Nat} (hf : f ≤ N) : hd9 B N f 5 = kd9 B N f := by
  have u : ∀ i j, i < 5 → j < 5 → i ≠ j → wd B N f (wk9 i) = true → wd B N f (wk9 j) = false := fun i j hi hj h a => Bool.eq_false_iff.mpr (fun b => h (wd_u hf hi hj a b))
  show (if wd B N f 8 = true then ((4 : Nat) : Int) else if wd B N f 6 = true then ((3 : Nat) : Int) else if wd B N f 5 = true then ((2 : Nat) : Int) else if wd B N f 3 = true then ((1 : Nat) : Int) else if wd B N f 0 = true then ((0 : Nat) : Int) else -1) = _
  unfold kd9
  by_cases a0 : wd B N f 0 = true
  · rw [show wd B N f 8 = false from u 0 4 (by decide) (by decide) (by decide) a0, show wd B N f 6 = false from u 0 3 (by decide) (by decide) (by decide) a0, show wd B N f 5 = false from u 0 2 (by decide) (by decide) (by decide) a0, show wd B N f 3 = false from u 0 1 (by decide) (by decide) (by decide) a0, a0]; rfl
  · by_cases a1 : wd B N f 3 = true
    · rw [show wd B N f 8 = false from u 1 4 (by decide) (by decide) (by decide) a1, show wd B N f 6 = false from u 1 3 (by decide) (by decide) (by decide) a1, show wd B N f 5 = false from u 1 2 (by decide) (by decide) (by decide) a1, Bool.eq_false_iff.mpr a0, a1]; rfl
    · by_cases a2 : wd B N f 5 = true
      · rw [show wd B N f 8 = false from u 2 4 (by decide) (by decide) (by decide) a2, show wd B N f 6 = false from u 2 3 (by decide) (by decide) (by decide) a2, Bool.eq_false_iff.mpr a0, Bool.eq_false_iff.mpr a1, a2]; rfl
      · by_cases a3 : wd B N f 6 = true
        · rw [show wd B N f 8 = false from u 3 4 (by decide) (by decide) (by decide) a3, Bool.eq_false_iff.mpr a0, Bool.eq_false_iff.mpr a1, Bool.eq_false_iff.mpr a2, a3]; rfl
        · rw [if_neg a3, if_neg a2, if_neg a1, if_neg a0, if_neg a0, if_neg a1, if_neg a2, if_neg a3]; split <;> rfl
def stq (B : Nat → Int) (N f d k : Nat) : Bool × Nat := if k < 24 then stp B N f d else (true, f)
def FSR (k d : Nat) (h h' : jH) : Prop := (∀ x, x ≠ 388 → (x < 420 ∨ 426 < x) → h' x = h x) ∧ (∀ x, 420 ≤ x → x ≤ 424 → ∀ q, q ≠ k → h' x q = h x q) ∧ (∀ q, q ≠ d → h' 426 q = h 426 q) ∧ ∀ q, (q < 55 ∨ 60 < q) → q ≠ 62 → q ≠ 69 → q ≠ 72 → h' 388 q = h 388 q
theorem FSR.fb {k d : Nat} {a b c : jH} (h1 : FSR k d a b) (h2 : FBx b c) : FSR k d a c := ⟨fun x x1 x2 => (h2.1 x x1).trans (h1.1 x x1 x2), fun x x1 x2 q q1 => by rw [h2.1 x (by omega)]; exact h1.2.1 x x1 x2 q q1, fun q q1 => by rw [h2.1 426 (by decide)]; exact h1.2.2.1 q q1, fun q q1 q2 q3 q4 => by rw [h2.2 q q1]; exact h1.2.2.2 q q1 q2 q3 q4⟩
theorem FSR.s9 {k d z : Nat} {a b : jH} {v : Int} (hz : 420 ≤ z ∧ z ≤ 424) (h1 : FSR k d a b) : FSR k d a (hs b z k v) := ⟨fun x x1 x2 => by rw [hs_O (by omega)]; exact h1.1 x x1 x2, fun x x1 x2 q q1 => by
    by_cases e : x = z
    · subst e; rw [hs_k q1]; exact h1.2.1 x x1 x2 q q1
    · rw [hs_O e]; exact h1.2.1 x x1 x2 q q1, fun q q1 => by rw [hs_O (by omega)]; exact h1.2.2.1 q q1, fun q q1 q2 q3 q4 => by rw [hs_O (by omega)]; exact h1.2.2.2 q q1 q2 q3 q4⟩
def GR9 (B : Nat → Int) (N f d k : Nat) (SD : List Int) (h' : jH) : Prop := h' 420 k = kd9 B N f ∧ (kd9 B N f ≠ 2 → h' 421 k = vM9 B N f) ∧ (kd9 B N f = 2 → h' 421 k = (SD.length : Int) ∧ h' 422 k = (SD.length : Int) + vM9 B N f) ∧ (kd9 B N f ≠ 2 → kd9 B N f ≠ 4 → h' 422 k = vW9 B N f SD.length) ∧ (kd9 B N f = 0 → h' 423 k = vY9 B N f) ∧ SDR h' (SD ++ vS9 B N f) ∧ (kd9 B N f = 4 → h' 426 d = (k : Int) ∧ h' 388 72 = ((d + 1 : Nat) : Int)) ∧ (kd9 B N f ≠ 4 → h' 388 72 = (d : Int)) ∧ h' 388 62 = ((k + 1 : Nat) : Int)
def PSR (B : Nat → Int) (N f d k : Nat) (SD : List Int) (h h' : jH) : Prop := RTx h' B N (stq B N f d k).1 (stq B N f d k).2 ∧ FSR k d h h' ∧ ((stq B N f d k).1 = false → GR9 B N f d k SD h' ∧ h' 424 k = ((k + 1 : Nat) : Int))
def MR9 (B : Nat → Int) (N f d k : Nat) (SD : List Int) (h m0 : jH) : Prop := FSR k d h m0 ∧ RTx m0 B N false (nx B N f) ∧ m0 388 72 = (d : Int) ∧ SDR m0 SD ∧ m0 388 62 = ((k + 1 : Nat) : Int) ∧ m0 420 k = kd9 B N f
set_option maxRecDepth 20000 in
set_option maxHeartbeats 1000000 in
theorem r_rh_lp (l : Launch) (h : jH) (B : Nat → Int) (N f : Nat) (tr : TR h B N f) (P : Option Value → jH → Prop) (hx : jT l 327 34 [some (.ref 388), some (.int (jI (kd9 B N f))), some (.int (jI (5)))] [] h P) : ∀ (m : Nat) (i : Nat), 5 - i < m → i ≤ 5 → jT l 327 4 [some (.ref 388), some (.int (jI (hd9 B N f i))), some (.int (jI ((i : Int))))] [] h P := by
  have fN := tr.2.2.2.2.2
  intro m
  induction m with
  | zero => intro i hk; omega
  | succ m ih =>
    intro i hk hi
    have hr := hd9_r (B := B) (N := N) (f := f) i
    refine tl_iload_n rfl rfl ?_
    refine tl_iconst rfl ?_
    refine tl_icmp_ge (tgt := 34) rfl rfl ⟨by omega, by omega⟩ ⟨by omega, by omega⟩ (fun c1 => ?_) (fun c1 => ?_)
    · skip
      show jT _ _ 34 _ _ _ _
      -- leaf 0 at 34
      have e : i = 5 := by omega
      subst e
      rw [hd9_5 fN]
      exact hx
    · show jT _ _ 9 _ _ _ _
      refine tl_aload_n rfl rfl ?_
      refine tl_aload_n rfl rfl ?_
      refine tl_getr (c := 12) (k9 := 61) (b := 419) rfl rfl rfl rfl ?_
      show jT _ _ 14 _ _ _ _
      refine tl_iload_n rfl rfl ?_
      refine tl_lald rfl rfl (by omega) (by omega) ?_
      rw [Int.toNat_natCast]
      have we := wk9_e i (by omega)
      refine tl_v1i (c9 := 12) (r_isWrd l h B N f tr (wk9 i) we.1 (jhd i) we.2.1 we.2.2.1 we.2.2.2) rfl rfl rfl rfl rfl (Nat.le_of_ble_eq_true rfl) (fun z1 h1 p1 => ?_)
      obtain ⟨q1, rfl⟩ := p1
      have q1 := q1.symm
      subst q1
      have b1 := zb_b (wd B N f (wk9 i))
      refine tl_if_eq (tgt := 26) rfl rfl ⟨by omega, by omega⟩ (fun c2 => ?_) (fun c2 => ?_)
      · skip
        have ew := zb0 c2
        refine tl_iload_n rfl rfl ?_
        refine tl_istore_n rfl (Nat.le_of_ble_eq_true rfl) rfl ?_
        refine tl_iinc rfl rfl rfl ?_
        show jT _ _ 31 _ _ _ _
        refine tl_goto (tgt := 4) rfl rfl ?_
        show jT _ _ 4 _ _ _ _
        -- leaf 1 at 4
        first
          | (have e : hd9 B N f (i + 1) = (i : Int) := by rw [hd9, if_pos ew]
             have r := ih (i + 1) (by omega) (by omega)
             rw [e] at r
             exact r)
          | (have e : hd9 B N f (i + 1) = hd9 B N f i := by rw [hd9, if_neg (by rw [ew]; decide)]
             have r := ih (i + 1) (by omega) (by omega)
             rw [e] at r
             exact r)
      · show jT _ _ 22 _ _ _ _
        have ew := zb1' c2
        refine tl_iload_n rfl rfl ?_
        refine tl_goto (tgt := 27) rfl rfl ?_
        refine tl_istore_n rfl (Nat.le_of_ble_eq_true rfl) rfl ?_
        refine tl_iinc rfl rfl rfl ?_
        refine tl_goto (tgt := 4) rfl rfl ?_
        show jT _ _ 4 _ _ _ _
        -- leaf 2 at 4
        first
          | (have e : hd9 B N f (i + 1) = (i : Int) := by rw [hd9, if_pos ew]
             have r := ih (i + 1) (by omega) (by omega)
             rw [e] at r
             exact r)
          | (have e : hd9 B N f (i + 1) = hd9 B N f i := by rw [hd9, if_neg (by rw [ew]; decide)]
             have r := ih (i + 1) (by omega) (by omega)
             rw [e] at r
             exact r)
set_option maxRecDepth 20000 in
set_option maxHeartbeats 1000000 in
theorem r_rs191 (l : Launch) (h m3 : jH) (B : Nat → Int) (N f d k : Nat) (k24 : k < 24) (SD : List Int) (hd9v : Int) (e62 : m3 388 62 = ((k + 1 : Nat) : Int)) (P : Option Value → jH → Prop) (hP : ∀ h', PSR B N f d k SD h h' → P none h') (rt : RTx m3 B N (stp B N f d).1 (stp B N f d).2) (fr : FSR k d h m3) (g : (stp B N f d).1 = false → GR9 B N f d k SD m3) : jT l 327 191 [some (.ref 388), some (.int (jI (hd9v))), some (.int (jI ((k : Int))))] [] m3 P := by
  have eq9 : stq B N f d k = stp B N f d := by rw [stq, if_pos k24]
  refine tl_aload_n rfl rfl ?_
  refine tl_getr (c := 12) (k9 := 67) (b := 424) rfl rfl rfl rfl ?_
  refine tl_iload_n rfl rfl ?_
  refine tl_aload_n rfl rfl ?_
  refine tl_geti (c := 12) (k9 := 62) rfl rfl rfl ?_
  rw [e62]
  refine tl_iast (n := 24) rfl rfl rfl (by omega) (by omega) ?_
  rw [Int.toNat_natCast]
  show jT _ _ 201 _ _ _ _
  refine tl_ret rfl ?_
  -- leaf 0 at 201
  refine hP _ ⟨by rw [eq9]; exact rt.s9 (by decide) (by decide), fr.s9 (by decide), fun q => ?_⟩
  rw [eq9] at q
  obtain ⟨a1, a2, a3, a4, a5, a6, a7, a8, a9⟩ := g q
  exact ⟨⟨by rw [hs_o (by decide)]; exact a1, fun z => by rw [hs_o (by decide)]; exact a2 z, fun z => by rw [hs_o (by decide), hs_o (by decide)]; exact a3 z, fun z z2 => by rw [hs_o (by decide)]; exact a4 z z2, fun z => by rw [hs_o (by decide)]; exact a5 z, a6.of (by rw [hs_o (by decide)]) (hs_O (by decide)), fun z => by rw [hs_o (by decide), hs_o (by decide)]; exact a7 z, fun z => by rw [hs_o (by decide)]; exact a8 z, by rw [hs_o (by decide)]; exact a9⟩, hs_s⟩
set_option maxRecDepth 20000 in
set_option maxHeartbeats 1000000 in
theorem r_rst0 (l : Launch) (h : jH) (B : Nat → Int) (N f d k : Nat) (k24 : k < 24) (d4 : d ≤ 4) (SD : List Int) (m0 : jH) (hM : MR9 B N f d k SD h m0) (hk9 : kd9 B N f = 0) (P : Option Value → jH → Prop) (hP : ∀ h', PSR B N f d k SD h h' → P none h') : jT l 327 91 [some (.ref 388), some (.int (jI (kd9 B N f))), some (.int (jI ((k : Int))))] [] m0 P := by
  obtain ⟨f0, t0, d0, s0, n0, k0⟩ := hM
  have fN1 := t0.N9
  have eq9 : stq B N f d k = stp B N f d := by rw [stq, if_pos k24]
  have sp : stp B N f d = sT B N f := stp_0 hk9
  refine tl_aload_n rfl rfl ?_
  refine tl_iload_n rfl rfl ?_
  refine tl_v1v (c9 := 12) (r_readTake l m0 B N f k k24 t0) rfl rfl rfl rfl rfl (Nat.le_of_ble_eq_true rfl) (fun h1 p1 => ?_)
  obtain ⟨k1, g1, v1⟩ := p1
  refine tl_goto (tgt := 191) rfl rfl ?_
  show jT _ _ 191 _ _ _ _
  -- leaf 0 at 191
  refine r_rs191 l h h1 B N f d k k24 SD (kd9 B N f) (by rw [g1.2.2 62 (by omega)]; exact n0) P hP (by rw [sp]; exact k1) ?_ (fun q => ?_)
  · exact ⟨fun x x1 x2 => by rw [g1.1 x x1 (by omega)]; exact f0.1 x x1 x2, fun x x1 x2 q q1 => by (by_cases e : 421 ≤ x ∧ x ≤ 423; (rw [g1.2.1 x e.1 e.2 q q1]; exact f0.2.1 x x1 x2 q q1); (rw [g1.1 x (by omega) (by omega)]; exact f0.2.1 x x1 x2 q q1)), fun q q1 => by rw [g1.1 426 (by decide) (by decide)]; exact f0.2.2.1 q q1, fun q q1 q2 q3 q4 => by rw [g1.2.2 q q1]; exact f0.2.2.2 q q1 q2 q3 q4⟩
  · rw [sp] at q
    obtain ⟨w1, w2, w3⟩ := v1 q
    refine ⟨by rw [g1.1 420 (by decide) (by decide)]; exact k0, fun _ => by rw [w1, vM9, if_neg (by rw [hk9]; decide)], fun z => absurd z (by rw [hk9]; decide), fun _ _ => by rw [w2, vW9, if_neg (by rw [hk9]; decide)], fun _ => ?_, ?_, fun z => absurd z (by rw [hk9]; decide), fun _ => by rw [g1.2.2 72 (by omega)]; exact d0, by rw [g1.2.2 62 (by omega)]; exact n0⟩
    · rw [w3, vY9]
      by_cases c : wd B N (nx B N (nx B N (nx B N (nx B N f)))) 2 = true
      · rw [if_pos c, if_pos ⟨hk9, c⟩]
      · rw [if_neg c, if_neg (fun z => c z.2)]
    · rw [vS9, if_neg (by rw [hk9]; decide), List.append_nil]; exact s0.of (g1.2.2 69 (by omega)) (g1.1 425 (by decide) (by decide))
set_option maxRecDepth 20000 in
set_option maxHeartbeats 1000000 in
theorem r_rst4 (l : Launch) (h : jH) (B : Nat → Int) (N f d k : Nat) (k24 : k < 24) (d4 : d ≤ 4) (SD : List Int) (m0 : jH) (hM : MR9 B N f d k SD h m0) (hk9 : kd9 B N f = 4) (P : Option Value → jH → Prop) (hP : ∀ h', PSR B N f d k SD h h' → P none h') : jT l 327 117 [some (.ref 388), some (.int (jI (kd9 B N f))), some (.int (jI ((k : Int))))] [] m0 P := by
  obtain ⟨f0, t0, d0, s0, n0, k0⟩ := hM
  have fN1 := t0.N9
  have eq9 : stq B N f d k = stp B N f d := by rw [stq, if_pos k24]
  have sp : stp B N f d = sM9 B N f d := stp_4 hk9
  refine tl_aload_n rfl rfl ?_
  refine tl_iload_n rfl rfl ?_
  refine tl_v1v (c9 := 12) (r_readTimes l m0 B N f d k k24 d4 d0 t0) rfl rfl rfl rfl rfl (Nat.le_of_ble_eq_true rfl) (fun h1 p1 => ?_)
  obtain ⟨k1, ⟨g1, g2, g3, g4⟩, v1⟩ := p1
  refine tl_goto (tgt := 191) rfl rfl ?_
  show jT _ _ 191 _ _ _ _
  -- leaf 0 at 191
  refine r_rs191 l h h1 B N f d k k24 SD (kd9 B N f) (by rw [g4 62 (by omega) (by decide)]; exact n0) P hP (by rw [sp]; exact k1) ?_ (fun q => ?_)
  · exact ⟨fun x x1 x2 => by rw [g1 x x1 (by omega) (by omega)]; exact f0.1 x x1 x2, fun x x1 x2 q q1 => by (by_cases e : x = 421; (subst e; rw [g2 q q1]; exact f0.2.1 421 x1 x2 q q1); (rw [g1 x (by omega) e (by omega)]; exact f0.2.1 x x1 x2 q q1)), fun q q1 => by rw [g3 q q1]; exact f0.2.2.1 q q1, fun q q1 q2 q3 q4 => by rw [g4 q q1 q4]; exact f0.2.2.2 q q1 q2 q3 q4⟩
  · rw [sp] at q
    obtain ⟨w1, w2, w3⟩ := v1 q
    exact ⟨by rw [g1 420 (by decide) (by decide) (by decide)]; exact k0, fun _ => by rw [w1, vM9, if_neg (by rw [hk9]; decide)], fun z => absurd z (by rw [hk9]; decide), fun _ z => absurd hk9 z, fun z => absurd z (by rw [hk9]; decide), by rw [vS9, if_neg (by rw [hk9]; decide), List.append_nil]; exact s0.of (g4 69 (by omega) (by decide)) (g1 425 (by decide) (by decide) (by decide)), fun _ => ⟨w2, w3⟩, fun z => absurd hk9 z, by rw [g4 62 (by omega) (by decide)]; exact n0⟩
set_option maxRecDepth 20000 in
set_option maxHeartbeats 1000000 in
theorem r_rst2 (l : Launch) (h : jH) (B : Nat → Int) (N f d k : Nat) (k24 : k < 24) (d4 : d ≤ 4) (SD : List Int) (m0 : jH) (hM : MR9 B N f d k SD h m0) (bd : SD.length < (nx B N f)) (hk9 : kd9 B N f = 2) (P : Option Value → jH → Prop) (hP : ∀ h', PSR B N f d k SD h h' → P none h') : jT l 327 104 [some (.ref 388), some (.int (jI (kd9 B N f))), some (.int (jI ((k : Int))))] [] m0 P := by
  obtain ⟨f0, t0, d0, s0, n0, k0⟩ := hM
  have fN1 := t0.N9
  have eq9 : stq B N f d k = stp B N f d := by rw [stq, if_pos k24]
  have sp : stp B N f d = (sSy B N f).1 := stp_2 hk9
  refine tl_aload_n rfl rfl ?_
  refine tl_iload_n rfl rfl ?_
  refine tl_v1v (c9 := 12) (r_readSaid l m0 B N f k k24 t0 SD s0 bd) rfl rfl rfl rfl rfl (Nat.le_of_ble_eq_true rfl) (fun h1 p1 => ?_)
  obtain ⟨k1, ⟨g1, g2, g4⟩, v1⟩ := p1
  refine tl_goto (tgt := 191) rfl rfl ?_
  show jT _ _ 191 _ _ _ _
  -- leaf 0 at 191
  refine r_rs191 l h h1 B N f d k k24 SD (kd9 B N f) (by rw [g4 62 (by omega) (by decide)]; exact n0) P hP (by rw [sp]; exact k1) ?_ (fun q => ?_)
  · exact ⟨fun x x1 x2 => by rw [g1 x x1 (by omega) (by omega) (by omega)]; exact f0.1 x x1 x2, fun x x1 x2 q q1 => by (by_cases e : x = 421; (subst e; rw [(g2 q q1).1]; exact f0.2.1 421 x1 x2 q q1); (by_cases e2 : x = 422; (subst e2; rw [(g2 q q1).2]; exact f0.2.1 422 x1 x2 q q1); (rw [g1 x (by omega) e e2 (by omega)]; exact f0.2.1 x x1 x2 q q1))), fun q q1 => by rw [g1 426 (by decide) (by decide) (by decide) (by decide)]; exact f0.2.2.1 q q1, fun q q1 q2 q3 q4 => by rw [g4 q q1 q3]; exact f0.2.2.2 q q1 q2 q3 q4⟩
  · rw [sp] at q
    obtain ⟨w1, w2, w3⟩ := v1 q
    exact ⟨by rw [g1 420 (by decide) (by decide) (by decide) (by decide)]; exact k0, fun z => absurd hk9 z, fun _ => ⟨w2, by rw [w3, vM9, if_pos hk9]⟩, fun z => absurd hk9 z, fun z => absurd z (by rw [hk9]; decide), by rw [vS9, if_pos hk9]; exact w1, fun z => absurd z (by rw [hk9]; decide), fun _ => by rw [g4 72 (by omega) (by decide)]; exact d0, by rw [g4 62 (by omega) (by decide)]; exact n0⟩
set_option maxRecDepth 20000 in
set_option maxHeartbeats 1000000 in
theorem r_rst1 (l : Launch) (h : jH) (B : Nat → Int) (N f d k : Nat) (k24 : k < 24) (d4 : d ≤ 4) (SD : List Int) (m0 : jH) (hM : MR9 B N f d k SD h m0) (hk9 : kd9 B N f = 1) (P : Option Value → jH → Prop) (hP : ∀ h', PSR B N f d k SD h h' → P none h') : jT l 327 125 [some (.ref 388), some (.int (jI (kd9 B N f))), some (.int (jI ((k : Int))))] [] m0 P := by
  obtain ⟨f0, t0, d0, s0, n0, k0⟩ := hM
  have fN1 := t0.N9
  have eq9 : stq B N f d k = stp B N f d := by rw [stq, if_pos k24]
  have sp : stp B N f d = (sF9 B N f 4 0 255) := stp_1 hk9
  refine tl_aload_n rfl rfl ?_
  refine tl_getr (c := 12) (k9 := 64) (b := 421) rfl rfl rfl rfl ?_
  refine tl_iload_n rfl rfl ?_
  refine tl_aload_n rfl rfl ?_
  refine tl_lconst (z := 1) rfl rfl ?_
  refine tl_ldc2 (z := 64) rfl (by decide +kernel) ?_
  show jT _ _ 135 _ _ _ _
  refine tl_v2i (c9 := 12) (r_number l m0 B N false (nx B N f) t0 1 64 (by decide) (by decide) (by decide) (by decide)) rfl rfl rfl rfl rfl (Nat.le_of_ble_eq_true rfl) (fun z1 h1 p1 => ?_)
  obtain ⟨e1, k1, g1⟩ := p1
  subst e1
  change RTx h1 B N (mvp B N (false, nx B N f) (fun q => nb B N q 1 64)).1 (mvp B N (false, nx B N f) (fun q => nb B N q 1 64)).2 at k1
  refine tl_iast (n := 24) rfl rfl rfl (by omega) (by omega) ?_
  rw [Int.toNat_natCast]
  have k1b := RTx.s9 (i := k) (v := wo B N (nx B N f)) k1 (show (421 : Nat) ≠ 388 by decide) (by decide)
  refine tl_aload_n rfl rfl ?_
  refine tl_aload_n rfl rfl ?_
  refine tl_iload_n rfl rfl ?_
  refine tl_iconst rfl ?_
  refine tl_icmp_ne (tgt := 152) rfl rfl ⟨by omega, by omega⟩ ⟨by omega, by omega⟩ (fun c1 => ?_) (fun c1 => ?_)
  · skip
    exfalso; omega
  · show jT _ _ 146 _ _ _ _
    show jT _ _ 146 _ _ _ _
    refine tl_ldc2 (z := 763528) rfl (by decide +kernel) ?_
    refine tl_goto (tgt := 155) rfl rfl ?_
    refine tl_v1i (c9 := 12) (r_isWrd l _ B N (mvp B N (false, nx B N f) (fun q => nb B N q 1 64)).2 k1b.1 4 (by decide) 763528 rfl (by decide) (by decide)) rfl rfl rfl rfl rfl (Nat.le_of_ble_eq_true rfl) (fun z2 h2 p2 => ?_)
    obtain ⟨q2, rfl⟩ := p2
    have q2 := q2.symm
    subst q2
    refine tl_v1v (c9 := 12) (r_mustZ l _ B N (mvp B N (false, nx B N f) (fun q => nb B N q 1 64)).1 (mvp B N (false, nx B N f) (fun q => nb B N q 1 64)).2 k1b _ (wd B N (mvp B N (false, nx B N f) (fun q => nb B N q 1 64)).2 4) rfl) rfl rfl rfl rfl rfl (Nat.le_of_ble_eq_true rfl) (fun h3 p3 => ?_)
    obtain ⟨k3, g3⟩ := p3
    change RTx h3 B N (mvp B N (mvp B N (false, nx B N f) (fun q => nb B N q 1 64)) (fun q => wd B N q 4)).1 (mvp B N (mvp B N (false, nx B N f) (fun q => nb B N q 1 64)) (fun q => wd B N q 4)).2 at k3
    refine tl_aload_n rfl rfl ?_
    refine tl_getr (c := 12) (k9 := 65) (b := 422) rfl rfl rfl rfl ?_
    refine tl_iload_n rfl rfl ?_
    show jT _ _ 166 _ _ _ _
    refine tl_iload_n rfl rfl ?_
    refine tl_iconst rfl ?_
    refine tl_icmp_ne (tgt := 182) rfl rfl ⟨by omega, by omega⟩ ⟨by omega, by omega⟩ (fun c2 => ?_) (fun c2 => ?_)
    · skip
      exfalso; omega
    · show jT _ _ 171 _ _ _ _
      refine tl_aload_n rfl rfl ?_
      refine tl_lconst (z := 0) rfl rfl ?_
      refine tl_ldc2 (z := 255) rfl (by decide +kernel) ?_
      refine tl_v2i (c9 := 12) (r_number l h3 B N (mvp B N (mvp B N (false, nx B N f) (fun q => nb B N q 1 64)) (fun q => wd B N q 4)).1 (mvp B N (mvp B N (false, nx B N f) (fun q => nb B N q 1 64)) (fun q => wd B N q 4)).2 k3 0 255 (by decide) (by decide) (by decide) (by decide)) rfl rfl rfl rfl rfl (Nat.le_of_ble_eq_true rfl) (fun z4 h4 p4 => ?_)
      obtain ⟨e4, k4, g4⟩ := p4
      subst e4
      change RTx h4 B N (sF9 B N f 4 0 255).1 (sF9 B N f 4 0 255).2 at k4
      show jT _ _ 179 _ _ _ _
      refine tl_goto (tgt := 190) rfl rfl ?_
      refine tl_iast (n := 24) rfl rfl rfl (by omega) (by omega) ?_
      rw [Int.toNat_natCast]
      show jT _ _ 191 _ _ _ _
      -- leaf 0 at 191
      have fr4 : FSR k d h (hs h4 422 k (wo B N (mvp B N (mvp B N (false, nx B N f) (fun q => nb B N q 1 64)) (fun q => wd B N q 4)).2)) := ((((f0.fb g1).s9 (by decide)).fb g3).fb g4).s9 (by decide)
      refine r_rs191 l h _ B N f d k k24 SD (kd9 B N f) (by rw [hs_o (by decide), g4.2 62 (by omega), g3.2 62 (by omega), hs_o (by decide), g1.2 62 (by omega)]; exact n0) P hP (by rw [sp]; exact k4.s9 (by decide) (by decide)) fr4 (fun q => ?_)
      rw [sp] at q
      have sg9 := sF_g q
      have n1 := nb_v (lo := 1) (hi := 64) fN1 (by decide) sg9.1
      have n4 := nb_v (lo := 0) (hi := 255) k3.N9 (by decide) (by have z := sg9.2.2; rw [← sg9.2.1] at z; exact z)
      have es2 := sg9.2.1
      rw [es2] at n4
      refine ⟨by rw [hs_o (by decide), g4.1 420 (by decide), g3.1 420 (by decide), hs_o (by decide), g1.1 420 (by decide)]; exact k0, fun _ => ?_, fun z => absurd z (by rw [hk9]; decide), fun _ _ => ?_, fun z => absurd z (by rw [hk9]; decide), ?_, fun z => absurd z (by rw [hk9]; decide), fun _ => by rw [hs_o (by decide), g4.2 72 (by omega), g3.2 72 (by omega), hs_o (by decide), g1.2 72 (by omega)]; exact d0, by rw [hs_o (by decide), g4.2 62 (by omega), g3.2 62 (by omega), hs_o (by decide), g1.2 62 (by omega)]; exact n0⟩
      · rw [hs_o (by decide), g4.1 421 (by decide), g3.1 421 (by decide), hs_s, n1.1, vM9, if_neg (by rw [hk9]; decide)]
      · rw [hs_s, es2, n4.1, vW9, if_neg (by rw [hk9]; decide)]
      · rw [vS9, if_neg (by rw [hk9]; decide), List.append_nil]; exact s0.of (by rw [hs_o (by decide), g4.2 69 (by omega), g3.2 69 (by omega), hs_o (by decide), g1.2 69 (by omega)]) (by rw [hs_O (by decide), g4.1 425 (by decide), g3.1 425 (by decide), hs_O (by decide), g1.1 425 (by decide)])
set_option maxRecDepth 20000 in
set_option maxHeartbeats 1000000 in
theorem r_rst3 (l : Launch) (h : jH) (B : Nat → Int) (N f d k : Nat) (k24 : k < 24) (d4 : d ≤ 4) (SD : List Int) (m0 : jH) (hM : MR9 B N f d k SD h m0) (hk9 : kd9 B N f = 3) (P : Option Value → jH → Prop) (hP : ∀ h', PSR B N f d k SD h h' → P none h') : jT l 327 125 [some (.ref 388), some (.int (jI (kd9 B N f))), some (.int (jI ((k : Int))))] [] m0 P := by
  obtain ⟨f0, t0, d0, s0, n0, k0⟩ := hM
  have fN1 := t0.N9
  have eq9 : stq B N f d k = stp B N f d := by rw [stq, if_pos k24]
  have sp : stp B N f d = (sF9 B N f 7 1 64) := stp_3 hk9
  refine tl_aload_n rfl rfl ?_
  refine tl_getr (c := 12) (k9 := 64) (b := 421) rfl rfl rfl rfl ?_
  refine tl_iload_n rfl rfl ?_
  refine tl_aload_n rfl rfl ?_
  refine tl_lconst (z := 1) rfl rfl ?_
  refine tl_ldc2 (z := 64) rfl (by decide +kernel) ?_
  show jT _ _ 135 _ _ _ _
  refine tl_v2i (c9 := 12) (r_number l m0 B N false (nx B N f) t0 1 64 (by decide) (by decide) (by decide) (by decide)) rfl rfl rfl rfl rfl (Nat.le_of_ble_eq_true rfl) (fun z1 h1 p1 => ?_)
  obtain ⟨e1, k1, g1⟩ := p1
  subst e1
  change RTx h1 B N (mvp B N (false, nx B N f) (fun q => nb B N q 1 64)).1 (mvp B N (false, nx B N f) (fun q => nb B N q 1 64)).2 at k1
  refine tl_iast (n := 24) rfl rfl rfl (by omega) (by omega) ?_
  rw [Int.toNat_natCast]
  have k1b := RTx.s9 (i := k) (v := wo B N (nx B N f)) k1 (show (421 : Nat) ≠ 388 by decide) (by decide)
  refine tl_aload_n rfl rfl ?_
  refine tl_aload_n rfl rfl ?_
  refine tl_iload_n rfl rfl ?_
  refine tl_iconst rfl ?_
  refine tl_icmp_ne (tgt := 152) rfl rfl ⟨by omega, by omega⟩ ⟨by omega, by omega⟩ (fun c1 => ?_) (fun c1 => ?_)
  · skip
    show jT _ _ 152 _ _ _ _
    refine tl_ldc2 (z := 66667) rfl (by decide +kernel) ?_
    refine tl_v1i (c9 := 12) (r_isWrd l _ B N (mvp B N (false, nx B N f) (fun q => nb B N q 1 64)).2 k1b.1 7 (by decide) 66667 rfl (by decide) (by decide)) rfl rfl rfl rfl rfl (Nat.le_of_ble_eq_true rfl) (fun z2 h2 p2 => ?_)
    obtain ⟨q2, rfl⟩ := p2
    have q2 := q2.symm
    subst q2
    refine tl_v1v (c9 := 12) (r_mustZ l _ B N (mvp B N (false, nx B N f) (fun q => nb B N q 1 64)).1 (mvp B N (false, nx B N f) (fun q => nb B N q 1 64)).2 k1b _ (wd B N (mvp B N (false, nx B N f) (fun q => nb B N q 1 64)).2 7) rfl) rfl rfl rfl rfl rfl (Nat.le_of_ble_eq_true rfl) (fun h3 p3 => ?_)
    obtain ⟨k3, g3⟩ := p3
    change RTx h3 B N (mvp B N (mvp B N (false, nx B N f) (fun q => nb B N q 1 64)) (fun q => wd B N q 7)).1 (mvp B N (mvp B N (false, nx B N f) (fun q => nb B N q 1 64)) (fun q => wd B N q 7)).2 at k3
    refine tl_aload_n rfl rfl ?_
    refine tl_getr (c := 12) (k9 := 65) (b := 422) rfl rfl rfl rfl ?_
    refine tl_iload_n rfl rfl ?_
    refine tl_iload_n rfl rfl ?_
    show jT _ _ 167 _ _ _ _
    refine tl_iconst rfl ?_
    refine tl_icmp_ne (tgt := 182) rfl rfl ⟨by omega, by omega⟩ ⟨by omega, by omega⟩ (fun c2 => ?_) (fun c2 => ?_)
    · skip
      refine tl_aload_n rfl rfl ?_
      refine tl_lconst (z := 1) rfl rfl ?_
      refine tl_ldc2 (z := 64) rfl (by decide +kernel) ?_
      refine tl_v2i (c9 := 12) (r_number l h3 B N (mvp B N (mvp B N (false, nx B N f) (fun q => nb B N q 1 64)) (fun q => wd B N q 7)).1 (mvp B N (mvp B N (false, nx B N f) (fun q => nb B N q 1 64)) (fun q => wd B N q 7)).2 k3 1 64 (by decide) (by decide) (by decide) (by decide)) rfl rfl rfl rfl rfl (Nat.le_of_ble_eq_true rfl) (fun z4 h4 p4 => ?_)
      obtain ⟨e4, k4, g4⟩ := p4
      subst e4
      change RTx h4 B N (sF9 B N f 7 1 64).1 (sF9 B N f 7 1 64).2 at k4
      refine tl_iast (n := 24) rfl rfl rfl (by omega) (by omega) ?_
      rw [Int.toNat_natCast]
      show jT _ _ 191 _ _ _ _
      -- leaf 0 at 191
      have fr4 : FSR k d h (hs h4 422 k (wo B N (mvp B N (mvp B N (false, nx B N f) (fun q => nb B N q 1 64)) (fun q => wd B N q 7)).2)) := ((((f0.fb g1).s9 (by decide)).fb g3).fb g4).s9 (by decide)
      refine r_rs191 l h _ B N f d k k24 SD (kd9 B N f) (by rw [hs_o (by decide), g4.2 62 (by omega), g3.2 62 (by omega), hs_o (by decide), g1.2 62 (by omega)]; exact n0) P hP (by rw [sp]; exact k4.s9 (by decide) (by decide)) fr4 (fun q => ?_)
      rw [sp] at q
      have sg9 := sF_g q
      have n1 := nb_v (lo := 1) (hi := 64) fN1 (by decide) sg9.1
      have n4 := nb_v (lo := 1) (hi := 64) k3.N9 (by decide) (by have z := sg9.2.2; rw [← sg9.2.1] at z; exact z)
      have es2 := sg9.2.1
      rw [es2] at n4
      refine ⟨by rw [hs_o (by decide), g4.1 420 (by decide), g3.1 420 (by decide), hs_o (by decide), g1.1 420 (by decide)]; exact k0, fun _ => ?_, fun z => absurd z (by rw [hk9]; decide), fun _ _ => ?_, fun z => absurd z (by rw [hk9]; decide), ?_, fun z => absurd z (by rw [hk9]; decide), fun _ => by rw [hs_o (by decide), g4.2 72 (by omega), g3.2 72 (by omega), hs_o (by decide), g1.2 72 (by omega)]; exact d0, by rw [hs_o (by decide), g4.2 62 (by omega), g3.2 62 (by omega), hs_o (by decide), g1.2 62 (by omega)]; exact n0⟩
      · rw [hs_o (by decide), g4.1 421 (by decide), g3.1 421 (by decide), hs_s, n1.1, vM9, if_neg (by rw [hk9]; decide)]
      · rw [hs_s, es2, n4.1, vW9, if_neg (by rw [hk9]; decide)]
      · rw [vS9, if_neg (by rw [hk9]; decide), List.append_nil]; exact s0.of (by rw [hs_o (by decide), g4.2 69 (by omega), g3.2 69 (by omega), hs_o (by decide), g1.2 69 (by omega)]) (by rw [hs_O (by decide), g4.1 425 (by decide), g3.1 425 (by decide), hs_O (by decide), g1.1 425 (by decide)])
    · show jT _ _ 171 _ _ _ _
      exfalso; omega
  · show jT _ _ 146 _ _ _ _
    exfalso; omega
set_option maxRecDepth 20000 in
set_option maxHeartbeats 1000000 in
theorem r_readStep (l : Launch) (h : jH) (B : Nat → Int) (N f d k : Nat) (rt : RTx h B N false f) (kk : k ≤ 24) (d4 : d ≤ 4) (e62 : h 388 62 = (k : Int)) (e72 : h 388 72 = (d : Int)) (SD : List Int) (sd : SDR h SD) (bd : SD.length ≤ f) : cV l 327 [.ref 388] h (fun h' => PSR B N f d k SD h h') := by
  have kr := kd9_r (B := B) (N := N) f
  refine cV.of rfl rfl ?_
  refine tl_iconst rfl ?_
  refine tl_istore_n rfl (Nat.le_of_ble_eq_true rfl) rfl ?_
  refine tl_iconst rfl ?_
  refine tl_istore_n rfl (Nat.le_of_ble_eq_true rfl) rfl ?_
  show jT _ _ 4 _ _ _ _
  -- leaf 0 at 4
  refine r_rh_lp l h B N f rt.1 _ ?_ _ 0 (Nat.lt_succ_self _) (Nat.zero_le _)
  refine tl_aload_n rfl rfl ?_
  refine tl_iload_n rfl rfl ?_
  refine tl_iconst rfl ?_
  refine tl_icmp_eq (tgt := 53) rfl rfl ⟨by omega, by omega⟩ ⟨by omega, by omega⟩ (fun c1 => ?_) (fun c1 => ?_)
  · skip
    refine tl_iconst rfl ?_
    refine tl_v1v (c9 := 12) (r_mustZ l h B N false f rt _ (decide (kd9 B N f ≠ -1 ∧ k < 24)) (by first | (rw [decide_eq_true (show kd9 B N f ≠ -1 ∧ k < 24 from ⟨by omega, by omega⟩)]; rfl) | (rw [decide_eq_false (show ¬ (kd9 B N f ≠ -1 ∧ k < 24) by omega)]; rfl))) rfl rfl rfl rfl rfl (Nat.le_of_ble_eq_true rfl) (fun h1 p1 => ?_)
    obtain ⟨k1, g1⟩ := p1
    have bb := zb_b (mv9 B N false f (decide (kd9 B N f ≠ -1 ∧ k < 24))).1
    show jT _ _ 57 _ _ _ _
    refine tl_aload_n rfl rfl ?_
    refine tl_geti (c := 12) (k9 := 60) rfl rfl rfl ?_
    rw [k1.2.1]
    refine tl_if_eq (tgt := 65) rfl rfl ⟨by omega, by omega⟩ (fun c2 => ?_) (fun c2 => ?_)
    · skip
      have eb := zb0 c2
      have c99 : kd9 B N f ≠ -1 ∧ k < 24 := by
        by_cases c : kd9 B N f ≠ -1 ∧ k < 24
        · exact c
        · rw [decide_eq_false c] at eb; exact absurd (show true = false from eb) (by decide)
      have c98 := c99.2
      refine tl_aload_n rfl rfl ?_
      refine tl_geti (c := 12) (k9 := 62) rfl rfl rfl ?_
      rw [g1.2 62 (by omega), e62]
      refine tl_istore_n rfl (Nat.le_of_ble_eq_true rfl) rfl ?_
      refine tl_aload_n rfl rfl ?_
      show jT _ _ 71 _ _ _ _
      refine tl_getr (c := 12) (k9 := 63) (b := 420) rfl rfl rfl rfl ?_
      refine tl_iload_n rfl rfl ?_
      refine tl_iload_n rfl rfl ?_
      refine tl_iast (n := 24) rfl rfl rfl (by omega) (by omega) ?_
      rw [Int.toNat_natCast]
      refine tl_aload_n rfl rfl ?_
      refine tl_dup rfl rfl ?_
      refine tl_geti (c := 12) (k9 := 62) rfl rfl rfl ?_
      rw [hs_o (by decide), g1.2 62 (by omega), e62]
      show jT _ _ 82 _ _ _ _
      refine tl_iconst rfl ?_
      refine tl_iadd rfl ?_
      refine tl_puti (c := 12) (k9 := 62) rfl rfl rfl rfl ?_
      refine tl_iload_n rfl rfl ?_
      refine tl_if_ne (tgt := 99) rfl rfl ⟨by omega, by omega⟩ (fun c3 => ?_) (fun c3 => ?_)
      · skip
        refine tl_iload_n rfl rfl ?_
        refine tl_iconst rfl ?_
        show jT _ _ 101 _ _ _ _
        refine tl_icmp_ne (tgt := 112) rfl rfl ⟨by omega, by omega⟩ ⟨by omega, by omega⟩ (fun c4 => ?_) (fun c4 => ?_)
        · skip
          refine tl_iload_n rfl rfl ?_
          refine tl_iconst rfl ?_
          refine tl_icmp_ne (tgt := 125) rfl rfl ⟨by omega, by omega⟩ ⟨by omega, by omega⟩ (fun c5 => ?_) (fun c5 => ?_)
          · skip
            show jT _ _ 125 _ _ _ _
            -- leaf 0 at 125
            have c : kd9 B N f ≠ -1 ∧ k < 24 := by
              by_cases c : kd9 B N f ≠ -1 ∧ k < 24
              · exact c
              · rw [decide_eq_false c] at eb; exact absurd (show true = false from eb) (by decide)
            rw [decide_eq_true c] at k1
            change RTx h1 B N false (nx B N f) at k1
            have hM : MR9 B N f d k SD h (hs (hs h1 420 k (kd9 B N f)) 388 62 ((k : Int) + 1)) := ⟨⟨fun x x1 x2 => by rw [hs_O x1, hs_O (by omega)]; exact g1.1 x x1, fun x x1 x2 q q1 => by (rw [hs_O (by omega)]; by_cases e : x = 420; (subst e; rw [hs_k q1, g1.1 420 (by decide)]); (rw [hs_O e, g1.1 x (by omega)])), fun q q1 => by rw [hs_O (by decide), hs_O (by decide), g1.1 426 (by decide)], fun q q1 q2 q3 q4 => by rw [hs_k q2, hs_o (by decide)]; exact g1.2 q q1⟩, (k1.s9 (by decide) (by decide)).fld (by omega) (by decide), by rw [hs_k (by decide), hs_o (by decide), g1.2 72 (by omega)]; exact e72, sd.of (by rw [hs_k (by decide), hs_o (by decide), g1.2 69 (by omega)]) (by rw [hs_O (by decide), hs_O (by decide), g1.1 425 (by decide)]), by rw [hs_s]; omega, by rw [hs_O (by decide), hs_s]⟩
            have hP9 : ∀ h', PSR B N f d k SD h h' → (none : Option Value) = none ∧ PSR B N f d k SD h h' := fun h' q => ⟨rfl, q⟩
            have kr := kd9_r (B := B) (N := N) f
            first
              | exact r_rst0 l h B N f d k c.2 d4 SD _ hM (by omega) _ hP9
              | exact r_rst2 l h B N f d k c.2 d4 SD _ hM (by have := (nx_b (B := B) rt.N9).2.2 (kd9_lt rt.N9 c.1); omega) (by omega) _ hP9
              | exact r_rst4 l h B N f d k c.2 d4 SD _ hM (by omega) _ hP9
              | (by_cases k1e : kd9 B N f = 1
                 · exact r_rst1 l h B N f d k c.2 d4 SD _ hM k1e _ hP9
                 · exact r_rst3 l h B N f d k c.2 d4 SD _ hM (by omega) _ hP9)
          · show jT _ _ 117 _ _ _ _
            show jT _ _ 117 _ _ _ _
            -- leaf 1 at 117
            have c : kd9 B N f ≠ -1 ∧ k < 24 := by
              by_cases c : kd9 B N f ≠ -1 ∧ k < 24
              · exact c
              · rw [decide_eq_false c] at eb; exact absurd (show true = false from eb) (by decide)
            rw [decide_eq_true c] at k1
            change RTx h1 B N false (nx B N f) at k1
            have hM : MR9 B N f d k SD h (hs (hs h1 420 k (kd9 B N f)) 388 62 ((k : Int) + 1)) := ⟨⟨fun x x1 x2 => by rw [hs_O x1, hs_O (by omega)]; exact g1.1 x x1, fun x x1 x2 q q1 => by (rw [hs_O (by omega)]; by_cases e : x = 420; (subst e; rw [hs_k q1, g1.1 420 (by decide)]); (rw [hs_O e, g1.1 x (by omega)])), fun q q1 => by rw [hs_O (by decide), hs_O (by decide), g1.1 426 (by decide)], fun q q1 q2 q3 q4 => by rw [hs_k q2, hs_o (by decide)]; exact g1.2 q q1⟩, (k1.s9 (by decide) (by decide)).fld (by omega) (by decide), by rw [hs_k (by decide), hs_o (by decide), g1.2 72 (by omega)]; exact e72, sd.of (by rw [hs_k (by decide), hs_o (by decide), g1.2 69 (by omega)]) (by rw [hs_O (by decide), hs_O (by decide), g1.1 425 (by decide)]), by rw [hs_s]; omega, by rw [hs_O (by decide), hs_s]⟩
            have hP9 : ∀ h', PSR B N f d k SD h h' → (none : Option Value) = none ∧ PSR B N f d k SD h h' := fun h' q => ⟨rfl, q⟩
            have kr := kd9_r (B := B) (N := N) f
            first
              | exact r_rst0 l h B N f d k c.2 d4 SD _ hM (by omega) _ hP9
              | exact r_rst2 l h B N f d k c.2 d4 SD _ hM (by have := (nx_b (B := B) rt.N9).2.2 (kd9_lt rt.N9 c.1); omega) (by omega) _ hP9
              | exact r_rst4 l h B N f d k c.2 d4 SD _ hM (by omega) _ hP9
              | (by_cases k1e : kd9 B N f = 1
                 · exact r_rst1 l h B N f d k c.2 d4 SD _ hM k1e _ hP9
                 · exact r_rst3 l h B N f d k c.2 d4 SD _ hM (by omega) _ hP9)
        · show jT _ _ 104 _ _ _ _
          show jT _ _ 104 _ _ _ _
          -- leaf 2 at 104
          have c : kd9 B N f ≠ -1 ∧ k < 24 := by
            by_cases c : kd9 B N f ≠ -1 ∧ k < 24
            · exact c
            · rw [decide_eq_false c] at eb; exact absurd (show true = false from eb) (by decide)
          rw [decide_eq_true c] at k1
          change RTx h1 B N false (nx B N f) at k1
          have hM : MR9 B N f d k SD h (hs (hs h1 420 k (kd9 B N f)) 388 62 ((k : Int) + 1)) := ⟨⟨fun x x1 x2 => by rw [hs_O x1, hs_O (by omega)]; exact g1.1 x x1, fun x x1 x2 q q1 => by (rw [hs_O (by omega)]; by_cases e : x = 420; (subst e; rw [hs_k q1, g1.1 420 (by decide)]); (rw [hs_O e, g1.1 x (by omega)])), fun q q1 => by rw [hs_O (by decide), hs_O (by decide), g1.1 426 (by decide)], fun q q1 q2 q3 q4 => by rw [hs_k q2, hs_o (by decide)]; exact g1.2 q q1⟩, (k1.s9 (by decide) (by decide)).fld (by omega) (by decide), by rw [hs_k (by decide), hs_o (by decide), g1.2 72 (by omega)]; exact e72, sd.of (by rw [hs_k (by decide), hs_o (by decide), g1.2 69 (by omega)]) (by rw [hs_O (by decide), hs_O (by decide), g1.1 425 (by decide)]), by rw [hs_s]; omega, by rw [hs_O (by decide), hs_s]⟩
          have hP9 : ∀ h', PSR B N f d k SD h h' → (none : Option Value) = none ∧ PSR B N f d k SD h h' := fun h' q => ⟨rfl, q⟩
          have kr := kd9_r (B := B) (N := N) f
          first
            | exact r_rst0 l h B N f d k c.2 d4 SD _ hM (by omega) _ hP9
            | exact r_rst2 l h B N f d k c.2 d4 SD _ hM (by have := (nx_b (B := B) rt.N9).2.2 (kd9_lt rt.N9 c.1); omega) (by omega) _ hP9
            | exact r_rst4 l h B N f d k c.2 d4 SD _ hM (by omega) _ hP9
            | (by_cases k1e : kd9 B N f = 1
               · exact r_rst1 l h B N f d k c.2 d4 SD _ hM k1e _ hP9
               · exact r_rst3 l h B N f d k c.2 d4 SD _ hM (by omega) _ hP9)
      · show jT _ _ 91 _ _ _ _
        show jT _ _ 91 _ _ _ _
        -- leaf 3 at 91
        have c : kd9 B N f ≠ -1 ∧ k < 24 := by
          by_cases c : kd9 B N f ≠ -1 ∧ k < 24
          · exact c
          · rw [decide_eq_false c] at eb; exact absurd (show true = false from eb) (by decide)
        rw [decide_eq_true c] at k1
        change RTx h1 B N false (nx B N f) at k1
        have hM : MR9 B N f d k SD h (hs (hs h1 420 k (kd9 B N f)) 388 62 ((k : Int) + 1)) := ⟨⟨fun x x1 x2 => by rw [hs_O x1, hs_O (by omega)]; exact g1.1 x x1, fun x x1 x2 q q1 => by (rw [hs_O (by omega)]; by_cases e : x = 420; (subst e; rw [hs_k q1, g1.1 420 (by decide)]); (rw [hs_O e, g1.1 x (by omega)])), fun q q1 => by rw [hs_O (by decide), hs_O (by decide), g1.1 426 (by decide)], fun q q1 q2 q3 q4 => by rw [hs_k q2, hs_o (by decide)]; exact g1.2 q q1⟩, (k1.s9 (by decide) (by decide)).fld (by omega) (by decide), by rw [hs_k (by decide), hs_o (by decide), g1.2 72 (by omega)]; exact e72, sd.of (by rw [hs_k (by decide), hs_o (by decide), g1.2 69 (by omega)]) (by rw [hs_O (by decide), hs_O (by decide), g1.1 425 (by decide)]), by rw [hs_s]; omega, by rw [hs_O (by decide), hs_s]⟩
        have hP9 : ∀ h', PSR B N f d k SD h h' → (none : Option Value) = none ∧ PSR B N f d k SD h h' := fun h' q => ⟨rfl, q⟩
        have kr := kd9_r (B := B) (N := N) f
        first
          | exact r_rst0 l h B N f d k c.2 d4 SD _ hM (by omega) _ hP9
          | exact r_rst2 l h B N f d k c.2 d4 SD _ hM (by have := (nx_b (B := B) rt.N9).2.2 (kd9_lt rt.N9 c.1); omega) (by omega) _ hP9
          | exact r_rst4 l h B N f d k c.2 d4 SD _ hM (by omega) _ hP9
          | (by_cases k1e : kd9 B N f = 1
             · exact r_rst1 l h B N f d k c.2 d4 SD _ hM k1e _ hP9
             · exact r_rst3 l h B N f d k c.2 d4 SD _ hM (by omega) _ hP9)
    · show jT _ _ 64 _ _ _ _
      have eb := zb1' c2
      refine tl_ret rfl ?_
      -- leaf 4 at 64
      have c : ¬ (kd9 B N f ≠ -1 ∧ k < 24) := fun q => by rw [decide_eq_true q] at eb; exact absurd (show false = true from eb) (by decide)
      rw [decide_eq_false c] at k1
      have sp : stq B N f d k = (true, f) := by
        unfold stq
        by_cases c2 : k < 24
        · rw [if_pos c2, stp_n (by by_cases c3 : kd9 B N f = -1; exact c3; exact absurd ⟨c3, c2⟩ c)]
        · rw [if_neg c2]
      exact ⟨rfl, by rw [sp]; exact k1, ⟨fun x x1 _ => g1.1 x x1, fun x x1 x2 q _ => by rw [g1.1 x (by omega)], fun q _ => by rw [g1.1 426 (by decide)], fun q q1 _ _ _ => g1.2 q q1⟩, fun q => by rw [sp] at q; exact absurd (show true = false from q) (by decide)⟩
  · show jT _ _ 40 _ _ _ _
    refine tl_aload_n rfl rfl ?_
    refine tl_geti (c := 12) (k9 := 62) rfl rfl rfl ?_
    rw [e62]
    show jT _ _ 44 _ _ _ _
    refine tl_bipush rfl rfl ?_
    refine tl_icmp_ge (tgt := 53) rfl rfl ⟨by omega, by omega⟩ ⟨by omega, by omega⟩ (fun c6 => ?_) (fun c6 => ?_)
    · skip
      refine tl_iconst rfl ?_
      refine tl_v1v (c9 := 12) (r_mustZ l h B N false f rt _ (decide (kd9 B N f ≠ -1 ∧ k < 24)) (by first | (rw [decide_eq_true (show kd9 B N f ≠ -1 ∧ k < 24 from ⟨by omega, by omega⟩)]; rfl) | (rw [decide_eq_false (show ¬ (kd9 B N f ≠ -1 ∧ k < 24) by omega)]; rfl))) rfl rfl rfl rfl rfl (Nat.le_of_ble_eq_true rfl) (fun h1 p1 => ?_)
      obtain ⟨k1, g1⟩ := p1
      have bb := zb_b (mv9 B N false f (decide (kd9 B N f ≠ -1 ∧ k < 24))).1
      refine tl_aload_n rfl rfl ?_
      refine tl_geti (c := 12) (k9 := 60) rfl rfl rfl ?_
      rw [k1.2.1]
      refine tl_if_eq (tgt := 65) rfl rfl ⟨by omega, by omega⟩ (fun c7 => ?_) (fun c7 => ?_)
      · skip
        have eb := zb0 c7
        have c99 : kd9 B N f ≠ -1 ∧ k < 24 := by
          by_cases c : kd9 B N f ≠ -1 ∧ k < 24
          · exact c
          · rw [decide_eq_false c] at eb; exact absurd (show true = false from eb) (by decide)
        have c98 := c99.2
        show jT _ _ 65 _ _ _ _
        refine tl_aload_n rfl rfl ?_
        refine tl_geti (c := 12) (k9 := 62) rfl rfl rfl ?_
        rw [g1.2 62 (by omega), e62]
        refine tl_istore_n rfl (Nat.le_of_ble_eq_true rfl) rfl ?_
        refine tl_aload_n rfl rfl ?_
        refine tl_getr (c := 12) (k9 := 63) (b := 420) rfl rfl rfl rfl ?_
        refine tl_iload_n rfl rfl ?_
        refine tl_iload_n rfl rfl ?_
        show jT _ _ 76 _ _ _ _
        refine tl_iast (n := 24) rfl rfl rfl (by omega) (by omega) ?_
        rw [Int.toNat_natCast]
        refine tl_aload_n rfl rfl ?_
        refine tl_dup rfl rfl ?_
        refine tl_geti (c := 12) (k9 := 62) rfl rfl rfl ?_
        rw [hs_o (by decide), g1.2 62 (by omega), e62]
        refine tl_iconst rfl ?_
        refine tl_iadd rfl ?_
        refine tl_puti (c := 12) (k9 := 62) rfl rfl rfl rfl ?_
        show jT _ _ 87 _ _ _ _
        refine tl_iload_n rfl rfl ?_
        refine tl_if_ne (tgt := 99) rfl rfl ⟨by omega, by omega⟩ (fun c8 => ?_) (fun c8 => ?_)
        · skip
          refine tl_iload_n rfl rfl ?_
          refine tl_iconst rfl ?_
          refine tl_icmp_ne (tgt := 112) rfl rfl ⟨by omega, by omega⟩ ⟨by omega, by omega⟩ (fun c9 => ?_) (fun c9 => ?_)
          · skip
            refine tl_iload_n rfl rfl ?_
            refine tl_iconst rfl ?_
            show jT _ _ 114 _ _ _ _
            refine tl_icmp_ne (tgt := 125) rfl rfl ⟨by omega, by omega⟩ ⟨by omega, by omega⟩ (fun c10 => ?_) (fun c10 => ?_)
            · skip
              show jT _ _ 125 _ _ _ _
              -- leaf 5 at 125
              have c : kd9 B N f ≠ -1 ∧ k < 24 := by
                by_cases c : kd9 B N f ≠ -1 ∧ k < 24
                · exact c
                · rw [decide_eq_false c] at eb; exact absurd (show true = false from eb) (by decide)
              rw [decide_eq_true c] at k1
              change RTx h1 B N false (nx B N f) at k1
              have hM : MR9 B N f d k SD h (hs (hs h1 420 k (kd9 B N f)) 388 62 ((k : Int) + 1)) := ⟨⟨fun x x1 x2 => by rw [hs_O x1, hs_O (by omega)]; exact g1.1 x x1, fun x x1 x2 q q1 => by (rw [hs_O (by omega)]; by_cases e : x = 420; (subst e; rw [hs_k q1, g1.1 420 (by decide)]); (rw [hs_O e, g1.1 x (by omega)])), fun q q1 => by rw [hs_O (by decide), hs_O (by decide), g1.1 426 (by decide)], fun q q1 q2 q3 q4 => by rw [hs_k q2, hs_o (by decide)]; exact g1.2 q q1⟩, (k1.s9 (by decide) (by decide)).fld (by omega) (by decide), by rw [hs_k (by decide), hs_o (by decide), g1.2 72 (by omega)]; exact e72, sd.of (by rw [hs_k (by decide), hs_o (by decide), g1.2 69 (by omega)]) (by rw [hs_O (by decide), hs_O (by decide), g1.1 425 (by decide)]), by rw [hs_s]; omega, by rw [hs_O (by decide), hs_s]⟩
              have hP9 : ∀ h', PSR B N f d k SD h h' → (none : Option Value) = none ∧ PSR B N f d k SD h h' := fun h' q => ⟨rfl, q⟩
              have kr := kd9_r (B := B) (N := N) f
              first
                | exact r_rst0 l h B N f d k c.2 d4 SD _ hM (by omega) _ hP9
                | exact r_rst2 l h B N f d k c.2 d4 SD _ hM (by have := (nx_b (B := B) rt.N9).2.2 (kd9_lt rt.N9 c.1); omega) (by omega) _ hP9
                | exact r_rst4 l h B N f d k c.2 d4 SD _ hM (by omega) _ hP9
                | (by_cases k1e : kd9 B N f = 1
                   · exact r_rst1 l h B N f d k c.2 d4 SD _ hM k1e _ hP9
                   · exact r_rst3 l h B N f d k c.2 d4 SD _ hM (by omega) _ hP9)
            · show jT _ _ 117 _ _ _ _
              show jT _ _ 117 _ _ _ _
              -- leaf 6 at 117
              have c : kd9 B N f ≠ -1 ∧ k < 24 := by
                by_cases c : kd9 B N f ≠ -1 ∧ k < 24
                · exact c
                · rw [decide_eq_false c] at eb; exact absurd (show true = false from eb) (by decide)
              rw [decide_eq_true c] at k1
              change RTx h1 B N false (nx B N f) at k1
              have hM : MR9 B N f d k SD h (hs (hs h1 420 k (kd9 B N f)) 388 62 ((k : Int) + 1)) := ⟨⟨fun x x1 x2 => by rw [hs_O x1, hs_O (by omega)]; exact g1.1 x x1, fun x x1 x2 q q1 => by (rw [hs_O (by omega)]; by_cases e : x = 420; (subst e; rw [hs_k q1, g1.1 420 (by decide)]); (rw [hs_O e, g1.1 x (by omega)])), fun q q1 => by rw [hs_O (by decide), hs_O (by decide), g1.1 426 (by decide)], fun q q1 q2 q3 q4 => by rw [hs_k q2, hs_o (by decide)]; exact g1.2 q q1⟩, (k1.s9 (by decide) (by decide)).fld (by omega) (by decide), by rw [hs_k (by decide), hs_o (by decide), g1.2 72 (by omega)]; exact e72, sd.of (by rw [hs_k (by decide), hs_o (by decide), g1.2 69 (by omega)]) (by rw [hs_O (by decide), hs_O (by decide), g1.1 425 (by decide)]), by rw [hs_s]; omega, by rw [hs_O (by decide), hs_s]⟩
              have hP9 : ∀ h', PSR B N f d k SD h h' → (none : Option Value) = none ∧ PSR B N f d k SD h h' := fun h' q => ⟨rfl, q⟩
              have kr := kd9_r (B := B) (N := N) f
              first
                | exact r_rst0 l h B N f d k c.2 d4 SD _ hM (by omega) _ hP9
                | exact r_rst2 l h B N f d k c.2 d4 SD _ hM (by have := (nx_b (B := B) rt.N9).2.2 (kd9_lt rt.N9 c.1); omega) (by omega) _ hP9
                | exact r_rst4 l h B N f d k c.2 d4 SD _ hM (by omega) _ hP9
                | (by_cases k1e : kd9 B N f = 1
                   · exact r_rst1 l h B N f d k c.2 d4 SD _ hM k1e _ hP9
                   · exact r_rst3 l h B N f d k c.2 d4 SD _ hM (by omega) _ hP9)
          · show jT _ _ 104 _ _ _ _
            show jT _ _ 104 _ _ _ _
            -- leaf 7 at 104
            have c : kd9 B N f ≠ -1 ∧ k < 24 := by
              by_cases c : kd9 B N f ≠ -1 ∧ k < 24
              · exact c
              · rw [decide_eq_false c] at eb; exact absurd (show true = false from eb) (by decide)
            rw [decide_eq_true c] at k1
            change RTx h1 B N false (nx B N f) at k1
            have hM : MR9 B N f d k SD h (hs (hs h1 420 k (kd9 B N f)) 388 62 ((k : Int) + 1)) := ⟨⟨fun x x1 x2 => by rw [hs_O x1, hs_O (by omega)]; exact g1.1 x x1, fun x x1 x2 q q1 => by (rw [hs_O (by omega)]; by_cases e : x = 420; (subst e; rw [hs_k q1, g1.1 420 (by decide)]); (rw [hs_O e, g1.1 x (by omega)])), fun q q1 => by rw [hs_O (by decide), hs_O (by decide), g1.1 426 (by decide)], fun q q1 q2 q3 q4 => by rw [hs_k q2, hs_o (by decide)]; exact g1.2 q q1⟩, (k1.s9 (by decide) (by decide)).fld (by omega) (by decide), by rw [hs_k (by decide), hs_o (by decide), g1.2 72 (by omega)]; exact e72, sd.of (by rw [hs_k (by decide), hs_o (by decide), g1.2 69 (by omega)]) (by rw [hs_O (by decide), hs_O (by decide), g1.1 425 (by decide)]), by rw [hs_s]; omega, by rw [hs_O (by decide), hs_s]⟩
            have hP9 : ∀ h', PSR B N f d k SD h h' → (none : Option Value) = none ∧ PSR B N f d k SD h h' := fun h' q => ⟨rfl, q⟩
            have kr := kd9_r (B := B) (N := N) f
            first
              | exact r_rst0 l h B N f d k c.2 d4 SD _ hM (by omega) _ hP9
              | exact r_rst2 l h B N f d k c.2 d4 SD _ hM (by have := (nx_b (B := B) rt.N9).2.2 (kd9_lt rt.N9 c.1); omega) (by omega) _ hP9
              | exact r_rst4 l h B N f d k c.2 d4 SD _ hM (by omega) _ hP9
              | (by_cases k1e : kd9 B N f = 1
                 · exact r_rst1 l h B N f d k c.2 d4 SD _ hM k1e _ hP9
                 · exact r_rst3 l h B N f d k c.2 d4 SD _ hM (by omega) _ hP9)
        · show jT _ _ 91 _ _ _ _
          show jT _ _ 91 _ _ _ _
          -- leaf 8 at 91
          have c : kd9 B N f ≠ -1 ∧ k < 24 := by
            by_cases c : kd9 B N f ≠ -1 ∧ k < 24
            · exact c
            · rw [decide_eq_false c] at eb; exact absurd (show true = false from eb) (by decide)
          rw [decide_eq_true c] at k1
          change RTx h1 B N false (nx B N f) at k1
          have hM : MR9 B N f d k SD h (hs (hs h1 420 k (kd9 B N f)) 388 62 ((k : Int) + 1)) := ⟨⟨fun x x1 x2 => by rw [hs_O x1, hs_O (by omega)]; exact g1.1 x x1, fun x x1 x2 q q1 => by (rw [hs_O (by omega)]; by_cases e : x = 420; (subst e; rw [hs_k q1, g1.1 420 (by decide)]); (rw [hs_O e, g1.1 x (by omega)])), fun q q1 => by rw [hs_O (by decide), hs_O (by decide), g1.1 426 (by decide)], fun q q1 q2 q3 q4 => by rw [hs_k q2, hs_o (by decide)]; exact g1.2 q q1⟩, (k1.s9 (by decide) (by decide)).fld (by omega) (by decide), by rw [hs_k (by decide), hs_o (by decide), g1.2 72 (by omega)]; exact e72, sd.of (by rw [hs_k (by decide), hs_o (by decide), g1.2 69 (by omega)]) (by rw [hs_O (by decide), hs_O (by decide), g1.1 425 (by decide)]), by rw [hs_s]; omega, by rw [hs_O (by decide), hs_s]⟩
          have hP9 : ∀ h', PSR B N f d k SD h h' → (none : Option Value) = none ∧ PSR B N f d k SD h h' := fun h' q => ⟨rfl, q⟩
          have kr := kd9_r (B := B) (N := N) f
          first
            | exact r_rst0 l h B N f d k c.2 d4 SD _ hM (by omega) _ hP9
            | exact r_rst2 l h B N f d k c.2 d4 SD _ hM (by have := (nx_b (B := B) rt.N9).2.2 (kd9_lt rt.N9 c.1); omega) (by omega) _ hP9
            | exact r_rst4 l h B N f d k c.2 d4 SD _ hM (by omega) _ hP9
            | (by_cases k1e : kd9 B N f = 1
               · exact r_rst1 l h B N f d k c.2 d4 SD _ hM k1e _ hP9
               · exact r_rst3 l h B N f d k c.2 d4 SD _ hM (by omega) _ hP9)
      · show jT _ _ 64 _ _ _ _
        have eb := zb1' c7
        refine tl_ret rfl ?_
        -- leaf 9 at 64
        have c : ¬ (kd9 B N f ≠ -1 ∧ k < 24) := fun q => by rw [decide_eq_true q] at eb; exact absurd (show false = true from eb) (by decide)
        rw [decide_eq_false c] at k1
        have sp : stq B N f d k = (true, f) := by
          unfold stq
          by_cases c2 : k < 24
          · rw [if_pos c2, stp_n (by by_cases c3 : kd9 B N f = -1; exact c3; exact absurd ⟨c3, c2⟩ c)]
          · rw [if_neg c2]
        exact ⟨rfl, by rw [sp]; exact k1, ⟨fun x x1 _ => g1.1 x x1, fun x x1 x2 q _ => by rw [g1.1 x (by omega)], fun q _ => by rw [g1.1 426 (by decide)], fun q q1 _ _ _ => g1.2 q q1⟩, fun q => by rw [sp] at q; exact absurd (show true = false from q) (by decide)⟩
    · show jT _ _ 49 _ _ _ _
      refine tl_iconst rfl ?_
      refine tl_goto (tgt := 54) rfl rfl ?_
      refine tl_v1v (c9 := 12) (r_mustZ l h B N false f rt _ (decide (kd9 B N f ≠ -1 ∧ k < 24)) (by first | (rw [decide_eq_true (show kd9 B N f ≠ -1 ∧ k < 24 from ⟨by omega, by omega⟩)]; rfl) | (rw [decide_eq_false (show ¬ (kd9 B N f ≠ -1 ∧ k < 24) by omega)]; rfl))) rfl rfl rfl rfl rfl (Nat.le_of_ble_eq_true rfl) (fun h1 p1 => ?_)
      obtain ⟨k1, g1⟩ := p1
      have bb := zb_b (mv9 B N false f (decide (kd9 B N f ≠ -1 ∧ k < 24))).1
      refine tl_aload_n rfl rfl ?_
      refine tl_geti (c := 12) (k9 := 60) rfl rfl rfl ?_
      rw [k1.2.1]
      show jT _ _ 61 _ _ _ _
      refine tl_if_eq (tgt := 65) rfl rfl ⟨by omega, by omega⟩ (fun c11 => ?_) (fun c11 => ?_)
      · skip
        have eb := zb0 c11
        have c99 : kd9 B N f ≠ -1 ∧ k < 24 := by
          by_cases c : kd9 B N f ≠ -1 ∧ k < 24
          · exact c
          · rw [decide_eq_false c] at eb; exact absurd (show true = false from eb) (by decide)
        have c98 := c99.2
        refine tl_aload_n rfl rfl ?_
        refine tl_geti (c := 12) (k9 := 62) rfl rfl rfl ?_
        rw [g1.2 62 (by omega), e62]
        refine tl_istore_n rfl (Nat.le_of_ble_eq_true rfl) rfl ?_
        refine tl_aload_n rfl rfl ?_
        refine tl_getr (c := 12) (k9 := 63) (b := 420) rfl rfl rfl rfl ?_
        refine tl_iload_n rfl rfl ?_
        show jT _ _ 75 _ _ _ _
        refine tl_iload_n rfl rfl ?_
        refine tl_iast (n := 24) rfl rfl rfl (by omega) (by omega) ?_
        rw [Int.toNat_natCast]
        refine tl_aload_n rfl rfl ?_
        refine tl_dup rfl rfl ?_
        refine tl_geti (c := 12) (k9 := 62) rfl rfl rfl ?_
        rw [hs_o (by decide), g1.2 62 (by omega), e62]
        refine tl_iconst rfl ?_
        refine tl_iadd rfl ?_
        show jT _ _ 84 _ _ _ _
        refine tl_puti (c := 12) (k9 := 62) rfl rfl rfl rfl ?_
        refine tl_iload_n rfl rfl ?_
        refine tl_if_ne (tgt := 99) rfl rfl ⟨by omega, by omega⟩ (fun c12 => ?_) (fun c12 => ?_)
        · skip
          refine tl_iload_n rfl rfl ?_
          refine tl_iconst rfl ?_
          refine tl_icmp_ne (tgt := 112) rfl rfl ⟨by omega, by omega⟩ ⟨by omega, by omega⟩ (fun c13 => ?_) (fun c13 => ?_)
          · skip
            refine tl_iload_n rfl rfl ?_
            show jT _ _ 113 _ _ _ _
            refine tl_iconst rfl ?_
            refine tl_icmp_ne (tgt := 125) rfl rfl ⟨by omega, by omega⟩ ⟨by omega, by omega⟩ (fun c14 => ?_) (fun c14 => ?_)
            · skip
              show jT _ _ 125 _ _ _ _
              -- leaf 10 at 125
              have c : kd9 B N f ≠ -1 ∧ k < 24 := by
                by_cases c : kd9 B N f ≠ -1 ∧ k < 24
                · exact c
                · rw [decide_eq_false c] at eb; exact absurd (show true = false from eb) (by decide)
              rw [decide_eq_true c] at k1
              change RTx h1 B N false (nx B N f) at k1
              have hM : MR9 B N f d k SD h (hs (hs h1 420 k (kd9 B N f)) 388 62 ((k : Int) + 1)) := ⟨⟨fun x x1 x2 => by rw [hs_O x1, hs_O (by omega)]; exact g1.1 x x1, fun x x1 x2 q q1 => by (rw [hs_O (by omega)]; by_cases e : x = 420; (subst e; rw [hs_k q1, g1.1 420 (by decide)]); (rw [hs_O e, g1.1 x (by omega)])), fun q q1 => by rw [hs_O (by decide), hs_O (by decide), g1.1 426 (by decide)], fun q q1 q2 q3 q4 => by rw [hs_k q2, hs_o (by decide)]; exact g1.2 q q1⟩, (k1.s9 (by decide) (by decide)).fld (by omega) (by decide), by rw [hs_k (by decide), hs_o (by decide), g1.2 72 (by omega)]; exact e72, sd.of (by rw [hs_k (by decide), hs_o (by decide), g1.2 69 (by omega)]) (by rw [hs_O (by decide), hs_O (by decide), g1.1 425 (by decide)]), by rw [hs_s]; omega, by rw [hs_O (by decide), hs_s]⟩
              have hP9 : ∀ h', PSR B N f d k SD h h' → (none : Option Value) = none ∧ PSR B N f d k SD h h' := fun h' q => ⟨rfl, q⟩
              have kr := kd9_r (B := B) (N := N) f
              first
                | exact r_rst0 l h B N f d k c.2 d4 SD _ hM (by omega) _ hP9
                | exact r_rst2 l h B N f d k c.2 d4 SD _ hM (by have := (nx_b (B := B) rt.N9).2.2 (kd9_lt rt.N9 c.1); omega) (by omega) _ hP9
                | exact r_rst4 l h B N f d k c.2 d4 SD _ hM (by omega) _ hP9
                | (by_cases k1e : kd9 B N f = 1
                   · exact r_rst1 l h B N f d k c.2 d4 SD _ hM k1e _ hP9
                   · exact r_rst3 l h B N f d k c.2 d4 SD _ hM (by omega) _ hP9)
            · show jT _ _ 117 _ _ _ _
              show jT _ _ 117 _ _ _ _
              -- leaf 11 at 117
              have c : kd9 B N f ≠ -1 ∧ k < 24 := by
                by_cases c : kd9 B N f ≠ -1 ∧ k < 24
                · exact c
                · rw [decide_eq_false c] at eb; exact absurd (show true = false from eb) (by decide)
              rw [decide_eq_true c] at k1
              change RTx h1 B N false (nx B N f) at k1
              have hM : MR9 B N f d k SD h (hs (hs h1 420 k (kd9 B N f)) 388 62 ((k : Int) + 1)) := ⟨⟨fun x x1 x2 => by rw [hs_O x1, hs_O (by omega)]; exact g1.1 x x1, fun x x1 x2 q q1 => by (rw [hs_O (by omega)]; by_cases e : x = 420; (subst e; rw [hs_k q1, g1.1 420 (by decide)]); (rw [hs_O e, g1.1 x (by omega)])), fun q q1 => by rw [hs_O (by decide), hs_O (by decide), g1.1 426 (by decide)], fun q q1 q2 q3 q4 => by rw [hs_k q2, hs_o (by decide)]; exact g1.2 q q1⟩, (k1.s9 (by decide) (by decide)).fld (by omega) (by decide), by rw [hs_k (by decide), hs_o (by decide), g1.2 72 (by omega)]; exact e72, sd.of (by rw [hs_k (by decide), hs_o (by decide), g1.2 69 (by omega)]) (by rw [hs_O (by decide), hs_O (by decide), g1.1 425 (by decide)]), by rw [hs_s]; omega, by rw [hs_O (by decide), hs_s]⟩
              have hP9 : ∀ h', PSR B N f d k SD h h' → (none : Option Value) = none ∧ PSR B N f d k SD h h' := fun h' q => ⟨rfl, q⟩
              have kr := kd9_r (B := B) (N := N) f
              first
                | exact r_rst0 l h B N f d k c.2 d4 SD _ hM (by omega) _ hP9
                | exact r_rst2 l h B N f d k c.2 d4 SD _ hM (by have := (nx_b (B := B) rt.N9).2.2 (kd9_lt rt.N9 c.1); omega) (by omega) _ hP9
                | exact r_rst4 l h B N f d k c.2 d4 SD _ hM (by omega) _ hP9
                | (by_cases k1e : kd9 B N f = 1
                   · exact r_rst1 l h B N f d k c.2 d4 SD _ hM k1e _ hP9
                   · exact r_rst3 l h B N f d k c.2 d4 SD _ hM (by omega) _ hP9)
          · show jT _ _ 104 _ _ _ _
            show jT _ _ 104 _ _ _ _
            -- leaf 12 at 104
            have c : kd9 B N f ≠ -1 ∧ k < 24 := by
              by_cases c : kd9 B N f ≠ -1 ∧ k < 24
              · exact c
              · rw [decide_eq_false c] at eb; exact absurd (show true = false from eb) (by decide)
            rw [decide_eq_true c] at k1
            change RTx h1 B N false (nx B N f) at k1
            have hM : MR9 B N f d k SD h (hs (hs h1 420 k (kd9 B N f)) 388 62 ((k : Int) + 1)) := ⟨⟨fun x x1 x2 => by rw [hs_O x1, hs_O (by omega)]; exact g1.1 x x1, fun x x1 x2 q q1 => by (rw [hs_O (by omega)]; by_cases e : x = 420; (subst e; rw [hs_k q1, g1.1 420 (by decide)]); (rw [hs_O e, g1.1 x (by omega)])), fun q q1 => by rw [hs_O (by decide), hs_O (by decide), g1.1 426 (by decide)], fun q q1 q2 q3 q4 => by rw [hs_k q2, hs_o (by decide)]; exact g1.2 q q1⟩, (k1.s9 (by decide) (by decide)).fld (by omega) (by decide), by rw [hs_k (by decide), hs_o (by decide), g1.2 72 (by omega)]; exact e72, sd.of (by rw [hs_k (by decide), hs_o (by decide), g1.2 69 (by omega)]) (by rw [hs_O (by decide), hs_O (by decide), g1.1 425 (by decide)]), by rw [hs_s]; omega, by rw [hs_O (by decide), hs_s]⟩
            have hP9 : ∀ h', PSR B N f d k SD h h' → (none : Option Value) = none ∧ PSR B N f d k SD h h' := fun h' q => ⟨rfl, q⟩
            have kr := kd9_r (B := B) (N := N) f
            first
              | exact r_rst0 l h B N f d k c.2 d4 SD _ hM (by omega) _ hP9
              | exact r_rst2 l h B N f d k c.2 d4 SD _ hM (by have := (nx_b (B := B) rt.N9).2.2 (kd9_lt rt.N9 c.1); omega) (by omega) _ hP9
              | exact r_rst4 l h B N f d k c.2 d4 SD _ hM (by omega) _ hP9
              | (by_cases k1e : kd9 B N f = 1
                 · exact r_rst1 l h B N f d k c.2 d4 SD _ hM k1e _ hP9
                 · exact r_rst3 l h B N f d k c.2 d4 SD _ hM (by omega) _ hP9)
        · show jT _ _ 91 _ _ _ _
          show jT _ _ 91 _ _ _ _
          -- leaf 13 at 91
          have c : kd9 B N f ≠ -1 ∧ k < 24 := by
            by_cases c : kd9 B N f ≠ -1 ∧ k < 24
            · exact c
            · rw [decide_eq_false c] at eb; exact absurd (show true = false from eb) (by decide)
          rw [decide_eq_true c] at k1
          change RTx h1 B N false (nx B N f) at k1
          have hM : MR9 B N f d k SD h (hs (hs h1 420 k (kd9 B N f)) 388 62 ((k : Int) + 1)) := ⟨⟨fun x x1 x2 => by rw [hs_O x1, hs_O (by omega)]; exact g1.1 x x1, fun x x1 x2 q q1 => by (rw [hs_O (by omega)]; by_cases e : x = 420; (subst e; rw [hs_k q1, g1.1 420 (by decide)]); (rw [hs_O e, g1.1 x (by omega)])), fun q q1 => by rw [hs_O (by decide), hs_O (by decide), g1.1 426 (by decide)], fun q q1 q2 q3 q4 => by rw [hs_k q2, hs_o (by decide)]; exact g1.2 q q1⟩, (k1.s9 (by decide) (by decide)).fld (by omega) (by decide), by rw [hs_k (by decide), hs_o (by decide), g1.2 72 (by omega)]; exact e72, sd.of (by rw [hs_k (by decide), hs_o (by decide), g1.2 69 (by omega)]) (by rw [hs_O (by decide), hs_O (by decide), g1.1 425 (by decide)]), by rw [hs_s]; omega, by rw [hs_O (by decide), hs_s]⟩
          have hP9 : ∀ h', PSR B N f d k SD h h' → (none : Option Value) = none ∧ PSR B N f d k SD h h' := fun h' q => ⟨rfl, q⟩
          have kr := kd9_r (B := B) (N := N) f
          first
            | exact r_rst0 l h B N f d k c.2 d4 SD _ hM (by omega) _ hP9
            | exact r_rst2 l h B N f d k c.2 d4 SD _ hM (by have := (nx_b (B := B) rt.N9).2.2 (kd9_lt rt.N9 c.1); omega) (by omega) _ hP9
            | exact r_rst4 l h B N f d k c.2 d4 SD _ hM (by omega) _ hP9
            | (by_cases k1e : kd9 B N f = 1
               · exact r_rst1 l h B N f d k c.2 d4 SD _ hM k1e _ hP9
               · exact r_rst3 l h B N f d k c.2 d4 SD _ hM (by omega) _ hP9)
      · show jT _ _ 64 _ _ _ _
        have eb := zb1' c11
        refine tl_ret rfl ?_
        -- leaf 14 at 64
        have c : ¬ (kd9 B N f ≠ -1 ∧ k < 24) := fun q => by rw [decide_eq_true q] at eb; exact absurd (show false = true from eb) (by decide)
        rw [decide_eq_false c] at k1
        have sp : stq B N f d k = (true, f) := by
          unfold stq
          by_cases c2 : k < 24
          · rw [if_pos c2, stp_n (by by_cases c3 : kd9 B N f = -1; exact c3; exact absurd ⟨c3, c2⟩ c)]
          · rw [if_neg c2]
        exact ⟨rfl, by rw [sp]; exact k1, ⟨fun x x1 _ => g1.1 x x1, fun x x1 x2 q _ => by rw [g1.1 x (by omega)], fun q _ => by rw [g1.1 426 (by decide)], fun q q1 _ _ _ => g1.2 q q1⟩, fun q => by rw [sp] at q; exact absurd (show true = false from q) (by decide)⟩
