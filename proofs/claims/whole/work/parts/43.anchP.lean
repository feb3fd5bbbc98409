/-! the anchors, as whole numbers alone -/
def Rt (R : Nat → Int) : Prop := (2 ≤ R 0 ∧ R 0 ≤ 9) ∧ (0 ≤ R 1 ∧ R 1 ≤ 9) ∧ (1 ≤ R 2 ∧ R 2 ≤ 9) ∧ (0 ≤ R 3 ∧ R 3 ≤ 9) ∧ (1 ≤ R 4 ∧ R 4 ≤ 6)
theorem IC.rt {h s : jH} {t : Int} (hI : IC h s t) : Rt (s 390) := by
  have q := hI.2.2.2.1
  have q0 := (q 0 (by decide)).2
  have q1 := (q 1 (by decide)).2
  have q2 := (q 2 (by decide)).2
  have q3 := (q 3 (by decide)).2
  have q4 := (q 4 (by decide)).2
  exact ⟨q0, q1, q2, q3, q4⟩
theorem mt_s {R : Nat → Int} {i : Int} : ∀ k : Nat, 0 < mtM R i k → ∃ w : Nat, w < k ∧ mtW R i k = (w : Int) ∧ mtM R i k = (ml R i w : Int) := by
  intro k
  induction k with
  | zero => intro h; exact absurd h (by rw [mtM]; omega)
  | succ k ih =>
    intro h
    rw [mtM] at h ⊢
    rw [mtW]
    by_cases c : mtM R i k < (ml R i k : Int)
    · rw [if_pos c, if_pos c]; exact ⟨k, by omega, rfl, rfl⟩
    · rw [if_neg c] at h ⊢
      rw [if_neg c]
      obtain ⟨x, x1, x2, x3⟩ := ih h
      exact ⟨x, by omega, x2, x3⟩
/-- a match lies within both files -/
theorem mt_in {R : Nat → Int} (hR : Rok R) {i : Int} {k : Nat} (h : 0 < mtM R i k) : 0 ≤ mtW R i k ∧ mtW R i k + mtM R i k ≤ R 5 ∧ i + mtM R i k ≤ R 70 ∧ ∀ j : Nat, (j : Int) < mtM R i k → ali R (i + j) (mtW R i k + j) = true := by
  obtain ⟨x, x1, x2, x3⟩ := mt_s k h
  obtain ⟨a, b, c⟩ := ml_s hR (i := i) (p := (x : Int)) (by omega)
  have e := ali_t1 (b (ml R i x - 1) (by omega))
  have o := opn_t e.1
  refine ⟨by omega, by omega, by omega, fun j hj => ?_⟩
  rw [x2]; exact b j (by omega)
def ws (R : Nat → Int) (i p : Int) : Int := bif ali R i p then R 2 else - R 3
theorem ws_b {R : Nat → Int} (hT : Rt R) (i p : Int) : -9 ≤ ws R i p ∧ ws R i p ≤ 9 := by
  obtain ⟨a, b, c, d, e⟩ := hT
  rw [ws]
  cases ali R i p with
  | true => exact ⟨by show -9 ≤ R 2; omega, by show R 2 ≤ 9; omega⟩
  | false => exact ⟨by show -9 ≤ - R 3; omega, by show - R 3 ≤ 9; omega⟩
theorem ws_t {R : Nat → Int} {i p : Int} (h : ali R i p = true) : ws R i p = R 2 := by rw [ws, h]; rfl
theorem ws_f {R : Nat → Int} {i p : Int} (h : ali R i p = false) : ws R i p = - R 3 := by rw [ws, h]; rfl
def bsS (f : Nat → Int) : Nat → Int
  | 0 => 0
  | k + 1 => bsS f k + f k
def bsM (f : Nat → Int) : Nat → Int
  | 0 => 0
  | k + 1 => if bsM f k < bsS f (k + 1) then bsS f (k + 1) else bsM f k
def bsI (f : Nat → Int) : Nat → Int
  | 0 => 0
  | k + 1 => if bsM f k < bsS f (k + 1) then (k : Int) + 1 else bsI f k
theorem bs_b {f : Nat → Int} {c : Int} (hf : ∀ j, -c ≤ f j ∧ f j ≤ c) (c0 : 0 ≤ c) : ∀ k : Nat, (-(c * k) ≤ bsS f k ∧ bsS f k ≤ c * k) ∧ (0 ≤ bsM f k ∧ bsM f k ≤ c * k) ∧ 0 ≤ bsI f k ∧ bsI f k ≤ (k : Int) := by
  intro k
  induction k with
  | zero => rw [bsS, bsM, bsI]; simp
  | succ k ih =>
    have a := hf k
    have e : c * ((k + 1 : Nat) : Int) = c * (k : Int) + c := by rw [Int.natCast_add, Int.mul_add]; simp
    have es : bsS f (k + 1) = bsS f k + f k := rfl
    rw [bsM, bsI, e]
    by_cases d : bsM f k < bsS f (k + 1)
    · rw [if_pos d, if_pos d]; omega
    · rw [if_neg d, if_neg d]; omega
theorem bsI_b (f : Nat → Int) : ∀ k : Nat, 0 ≤ bsI f k ∧ bsI f k ≤ (k : Int) := by
  intro k
  induction k with
  | zero => rw [bsI]; exact ⟨Int.le_refl _, Int.le_refl _⟩
  | succ k ih => rw [bsI]; split <;> omega
theorem bs_congr {f g : Nat → Int} : ∀ k : Nat, (∀ j, j < k → f j = g j) → bsS f k = bsS g k ∧ bsM f k = bsM g k ∧ bsI f k = bsI g k := by
  intro k
  induction k with
  | zero => intro _; exact ⟨rfl, rfl, rfl⟩
  | succ k ih =>
    intro h
    obtain ⟨a, b, c⟩ := ih (fun j hj => h j (by omega))
    have e : bsS f (k + 1) = bsS g (k + 1) := by rw [bsS, bsS, a, h k (by omega)]
    exact ⟨e, by rw [bsM, bsM, b, e], by rw [bsI, bsI, b, c, e]⟩
/-- an anchor's end and how far its places are away from its spots -/
def aE (T : jH) (i : Nat) : Int := T 0 i + T 2 i
def aW (T : jH) (i : Nat) : Int := T 1 i - T 0 i
def aL (R : Nat → Int) (T : jH) (n i : Nat) : Int := if i + 1 < n then T 0 (i + 1) else R 70
def fwP (R : Nat → Int) (T : jH) (n i j : Nat) : Bool := decide (aE T i + j < aL R T n i) && opn R (aE T i + j + aW T i)
def fwF (R : Nat → Int) (T : jH) (i j : Nat) : Int := ws R (aE T i + j) (aE T i + j + aW T i)
def fwN (R : Nat → Int) (T : jH) (n i : Nat) : Nat := fst (fwP R T n i) 64 0
def fw (R : Nat → Int) (T : jH) (n i : Nat) : Int := bsI (fwF R T i) (fwN R T n i)
def bkP (R : Nat → Int) (T : jH) (i j : Nat) : Bool := decide (aE T (i - 1) ≤ T 0 i - 1 - j) && opn R (T 1 i - 1 - j)
def bkF (R : Nat → Int) (T : jH) (i j : Nat) : Int := ws R (T 0 i - 1 - j) (T 1 i - 1 - j)
def bkN (R : Nat → Int) (T : jH) (i : Nat) : Nat := fst (bkP R T i) 64 0
def bk (R : Nat → Int) (T : jH) (i : Nat) : Int := if i = 0 then 0 else bsI (bkF R T i) (bkN R T i)
def alc (R : Nat → Int) (T : jH) (n : Nat) (k : Int) : Nat → Int
  | 0 => 0
  | j + 1 => alc R T n k j + zb (ali R (k + j) (k + j + aW T (n - 1)))
theorem alc_b {R : Nat → Int} {T : jH} {n : Nat} {k : Int} : ∀ j : Nat, 0 ≤ alc R T n k j ∧ alc R T n k j ≤ (j : Int) := by
  intro j
  induction j with
  | zero => rw [alc]; exact ⟨Int.le_refl _, Int.le_refl _⟩
  | succ j ih => have := zb_b (ali R (k + j) (k + j + aW T (n - 1))); rw [alc]; omega
def addA (T : jH) (n : Nat) (s p z : Int) : jH := hs (hs (hs T 0 n s) 1 n p) 2 n z
theorem addA_0 {T : jH} {n i : Nat} {s p z : Int} : addA T n s p z 0 i = if i = n then s else T 0 i := by
  rw [addA, hs_o (by decide), hs_o (by decide)]
  by_cases c : i = n
  · subst c; rw [hs_s, if_pos rfl]
  · rw [hs_k c, if_neg c]
theorem addA_1 {T : jH} {n i : Nat} {s p z : Int} : addA T n s p z 1 i = if i = n then p else T 1 i := by
  rw [addA, hs_o (by decide)]
  by_cases c : i = n
  · subst c; rw [hs_s, if_pos rfl]
  · rw [hs_k c, if_neg c, hs_o (by decide)]
theorem addA_2 {T : jH} {n i : Nat} {s p z : Int} : addA T n s p z 2 i = if i = n then z else T 2 i := by
  rw [addA]
  by_cases c : i = n
  · subst c; rw [hs_s, if_pos rfl]
  · rw [hs_k c, if_neg c, hs_o (by decide), hs_o (by decide)]
def chB (R : Nat → Int) (lst : Int) (T : jH) (n : Nat) (nx : Int) (k : Nat) : Prop := nx ≤ (k : Int) ∧ lst ≤ mtM R k (R 5).toNat ∧ R 1 + alc R T n k (mtM R k (R 5).toNat).toNat < mtM R k (R 5).toNat
def chS (R : Nat → Int) (lst : Int) : Nat → jH × Nat × Int
  | 0 => (fun _ _ => 0, 1, 0)
  | k + 1 => if (chS R lst k).2.2 ≤ (k : Int) ∧ lst ≤ mtM R k (R 5).toNat ∧ R 1 + alc R (chS R lst k).1 (chS R lst k).2.1 k (mtM R k (R 5).toNat).toNat < mtM R k (R 5).toNat then (addA (chS R lst k).1 (chS R lst k).2.1 k (mtW R k (R 5).toNat) (mtM R k (R 5).toNat), (chS R lst k).2.1 + 1, (k : Int) + mtM R k (R 5).toNat) else chS R lst k
/-- what holds of the anchors chosen -/
def CI (R : Nat → Int) (T : jH) (n : Nat) (nx : Int) : Prop := 1 ≤ n ∧ 2 * ((n : Int) - 1) ≤ nx ∧ nx ≤ R 70 ∧ nx = aE T (n - 1) ∧ (T 0 0 = 0 ∧ T 1 0 = 0 ∧ T 2 0 = 0) ∧ (∀ i, i < n → 0 ≤ T 0 i ∧ 0 ≤ T 2 i ∧ 0 ≤ T 1 i ∧ aE T i ≤ R 70 ∧ T 1 i + T 2 i ≤ R 5 ∧ ∀ j : Nat, (j : Int) < T 2 i → ali R (T 0 i + j) (T 1 i + j) = true) ∧ ∀ i, i + 1 < n → aE T i ≤ T 0 (i + 1)
theorem CI.n33 {R : Nat → Int} (hR : Rok R) {T : jH} {n : Nat} {nx : Int} (h : CI R T n nx) : n ≤ 33 := by
  have := h.1; have := h.2.1; have := h.2.2.1; have := hR.2.2.2.1; omega
theorem chS_CI {R : Nat → Int} (hR : Rok R) {lst : Int} (l2 : 2 ≤ lst) : ∀ k : Nat, (k : Int) ≤ R 70 → CI R (chS R lst k).1 (chS R lst k).2.1 (chS R lst k).2.2 := by
  intro k
  induction k with
  | zero =>
    intro _
    have a1 := hR.1
    have a3 := hR.2.2.1
    refine ⟨Nat.le_refl _, by show (2 : Int) * (((1 : Nat) : Int) - 1) ≤ 0; omega, a3, rfl, ⟨rfl, rfl, rfl⟩, fun i hi => ⟨Int.le_refl _, Int.le_refl _, Int.le_refl _, by show (0 : Int) + 0 ≤ R 70; omega, by show (0 : Int) + 0 ≤ R 5; omega, fun j hj => by (have : (j : Int) < 0 := hj); omega⟩, fun i hi => by (have : i + 1 < 1 := hi); omega⟩
  | succ k ih =>
    intro hk
    have ci := ih (by omega)
    have ci0 := ci
    rw [chS]
    generalize (chS R lst k).1 = T at ci ⊢
    generalize (chS R lst k).2.1 = n at ci ⊢
    generalize (chS R lst k).2.2 = nx at ci ⊢
    by_cases c : nx ≤ (k : Int) ∧ lst ≤ mtM R k (R 5).toNat ∧ R 1 + alc R T n k (mtM R k (R 5).toNat).toNat < mtM R k (R 5).toNat
    · rw [if_pos c]
      obtain ⟨m1, m2, m3, m4⟩ := mt_in hR (i := (k : Int)) (k := (R 5).toNat) (by omega)
      generalize mtM R k (R 5).toNat = z at c m1 m2 m3 m4 ⊢
      generalize mtW R k (R 5).toNat = p at m1 m2 m4 ⊢
      obtain ⟨c1, c2, c3, c4, c5, c6, c7⟩ := ci
      have e0 : ∀ i, i ≠ n → addA T n k p z 0 i = T 0 i := fun i hi => by rw [addA_0, if_neg hi]
      have e1 : ∀ i, i ≠ n → addA T n k p z 1 i = T 1 i := fun i hi => by rw [addA_1, if_neg hi]
      have e2 : ∀ i, i ≠ n → addA T n k p z 2 i = T 2 i := fun i hi => by rw [addA_2, if_neg hi]
      have f0 : addA T n k p z 0 n = (k : Int) := by rw [addA_0, if_pos rfl]
      have f1 : addA T n k p z 1 n = p := by rw [addA_1, if_pos rfl]
      have f2 : addA T n k p z 2 n = z := by rw [addA_2, if_pos rfl]
      have eE : ∀ i, i ≠ n → aE (addA T n k p z) i = aE T i := fun i hi => by rw [aE, e0 i hi, e2 i hi, ← aE]
      have fE : aE (addA T n k p z) n = (k : Int) + z := by rw [aE, f0, f2]
      refine ⟨by show 1 ≤ n + 1; omega, by show 2 * (((n + 1 : Nat) : Int) - 1) ≤ (k : Int) + z; omega, m3, ?_, ?_, fun i hi => ?_, fun i hi => ?_⟩
      · show (k : Int) + z = aE (addA T n k p z) (n + 1 - 1)
        rw [show n + 1 - 1 = n by omega, fE]
      · show addA T n k p z 0 0 = 0 ∧ addA T n k p z 1 0 = 0 ∧ addA T n k p z 2 0 = 0
        rw [e0 0 (by omega), e1 0 (by omega), e2 0 (by omega)]; exact c5
      · have hi' : i < n + 1 := hi
        by_cases d : i = n
        · subst d
          show 0 ≤ addA T i k p z 0 i ∧ 0 ≤ addA T i k p z 2 i ∧ 0 ≤ addA T i k p z 1 i ∧ aE (addA T i k p z) i ≤ R 70 ∧ addA T i k p z 1 i + addA T i k p z 2 i ≤ R 5 ∧ ∀ j : Nat, (j : Int) < addA T i k p z 2 i → ali R (addA T i k p z 0 i + j) (addA T i k p z 1 i + j) = true
          rw [f0, f1, f2, fE]
          exact ⟨by omega, by omega, m1, m3, m2, m4⟩
        · show 0 ≤ addA T n k p z 0 i ∧ 0 ≤ addA T n k p z 2 i ∧ 0 ≤ addA T n k p z 1 i ∧ aE (addA T n k p z) i ≤ R 70 ∧ addA T n k p z 1 i + addA T n k p z 2 i ≤ R 5 ∧ ∀ j : Nat, (j : Int) < addA T n k p z 2 i → ali R (addA T n k p z 0 i + j) (addA T n k p z 1 i + j) = true
          rw [e0 i d, e1 i d, e2 i d, eE i d]
          exact c6 i (by omega)
      · have hi' : i + 1 < n + 1 := hi
        show aE (addA T n k p z) i ≤ addA T n k p z 0 (i + 1)
        rw [eE i (by omega)]
        by_cases d : i + 1 = n
        · rw [d, f0]; rw [show i = n - 1 by omega]; omega
        · rw [e0 _ d]; exact c7 i (by omega)
    · rw [if_neg c]; exact ci0
theorem chS_nx {R : Nat → Int} {lst : Int} : ∀ k j : Nat, k ≤ j → (j : Int) ≤ (chS R lst k).2.2 → chS R lst j = chS R lst k := by
  intro k j
  induction j with
  | zero => intro h1 _; rw [show k = 0 by omega]
  | succ j ih =>
    intro h1 h2
    by_cases c : k = j + 1
    · rw [c]
    · have e := ih (by omega) (by omega)
      rw [chS, e, if_neg (by omega)]
def T1 (R : Nat → Int) (T : jH) (n : Nat) : jH := fun r i => if r = 3 then fw R T n i else if r = 4 then bk R T i else T r i
def shF (R : Nat → Int) (T : jH) (i : Nat) (f : Int) (j : Nat) : Int := ws R (f + j) (f + j + aW T i) - ws R (f + j) (f + j + aW T (i + 1))
def shG (R : Nat → Int) (T : jH) (i : Nat) : Int := bsI (shF R T i (T 0 (i + 1) - T 4 (i + 1))) (aE T i + T 3 i - (T 0 (i + 1) - T 4 (i + 1))).toNat
def shr (R : Nat → Int) (T : jH) (i : Nat) : jH := if aE T i + T 3 i ≤ T 0 (i + 1) - T 4 (i + 1) then T else hs (hs T 3 i (T 0 (i + 1) - T 4 (i + 1) + shG R T i - aE T i)) 4 (i + 1) (T 4 (i + 1) - shG R T i)
def shs (R : Nat → Int) (T : jH) : Nat → jH
  | 0 => T
  | i + 1 => shr R (shs R T i) i
/-- what holds of them with what they reach -/
def TI (R : Nat → Int) (T : jH) (n : Nat) : Prop := CI R T n (aE T (n - 1)) ∧ ∀ i, i < n → (0 ≤ T 3 i ∧ aE T i + T 3 i ≤ aL R T n i) ∧ (0 ≤ T 4 i ∧ (if i = 0 then 0 else aE T (i - 1)) ≤ T 0 i - T 4 i) ∧ ∀ x : Int, T 0 i - T 4 i ≤ x → x < aE T i + T 3 i → opn R (x + aW T i) = true
theorem fwN_s {R : Nat → Int} {T : jH} {n i : Nat} {nx : Int} (hR : Rok R) (h : CI R T n nx) (hi : i < n) : fwN R T n i ≤ 64 ∧ (∀ j, j < fwN R T n i → fwP R T n i j = true) ∧ fwP R T n i (fwN R T n i) = false := by
  obtain ⟨a, b, c, d⟩ := fst_spec (fwP R T n i) 64 0
  have hb : fst (fwP R T n i) 64 0 = fwN R T n i := rfl
  rw [hb] at a b c d
  refine ⟨by omega, fun j hj => c j (by omega) hj, ?_⟩
  by_cases e : fwN R T n i < 0 + 64
  · exact d e
  · obtain ⟨g1, g2, g3, g4, g5, g6, g7⟩ := h
    obtain ⟨x1, x2, x3, x4, x5, x6⟩ := g6 i hi
    have : opn R (aE T i + (fwN R T n i : Int) + aW T i) = false := opn_64 hR (by have := aE T i; unfold aE aW; omega)
    rw [fwP, this, Bool.and_false]
theorem bkN_s {R : Nat → Int} {T : jH} {n i : Nat} {nx : Int} (hR : Rok R) (h : CI R T n nx) (hi : i < n) (i0 : i ≠ 0) : bkN R T i ≤ 64 ∧ (∀ j, j < bkN R T i → bkP R T i j = true) ∧ bkP R T i (bkN R T i) = false := by
  obtain ⟨a, b, c, d⟩ := fst_spec (bkP R T i) 64 0
  have hb : fst (bkP R T i) 64 0 = bkN R T i := rfl
  rw [hb] at a b c d
  refine ⟨by omega, fun j hj => c j (by omega) hj, ?_⟩
  by_cases e : bkN R T i < 0 + 64
  · exact d e
  · obtain ⟨g1, g2, g3, g4, g5, g6, g7⟩ := h
    obtain ⟨x1, x2, x3, x4, x5, x6⟩ := g6 i hi
    have k2 := hR.2.1
    have : opn R (T 1 i - 1 - (bkN R T i : Int)) = false := opn_f (by omega)
    rw [bkP, this, Bool.and_false]
theorem fwP_t {R : Nat → Int} {T : jH} {n i j : Nat} (h : fwP R T n i j = true) : aE T i + j < aL R T n i ∧ opn R (aE T i + j + aW T i) = true := by
  unfold fwP at h
  rw [Bool.and_eq_true] at h
  exact ⟨of_decide_eq_true h.1, h.2⟩
theorem bkP_t {R : Nat → Int} {T : jH} {i j : Nat} (h : bkP R T i j = true) : aE T (i - 1) ≤ T 0 i - 1 - j ∧ opn R (T 1 i - 1 - j) = true := by
  unfold bkP at h
  rw [Bool.and_eq_true] at h
  exact ⟨of_decide_eq_true h.1, h.2⟩
theorem CI.lim {R : Nat → Int} {T : jH} {n i : Nat} {nx : Int} (h : CI R T n nx) (hi : i < n) : aE T i ≤ aL R T n i ∧ aL R T n i ≤ R 70 := by
  obtain ⟨g1, g2, g3, g4, g5, g6, g7⟩ := h
  rw [aL]
  by_cases c : i + 1 < n
  · rw [if_pos c]
    obtain ⟨x1, x2, x3, x4, x5, x6⟩ := g6 (i + 1) c
    unfold aE at x4
    exact ⟨g7 i c, by omega⟩
  · rw [if_neg c]
    exact ⟨(g6 i hi).2.2.2.1, Int.le_refl _⟩
theorem T1_TI {R : Nat → Int} (hR : Rok R) {T : jH} {n : Nat} {nx : Int} (h : CI R T n nx) : TI R (T1 R T n) n := by
  have h0 := h
  have e0 : ∀ i, T1 R T n 0 i = T 0 i := fun i => rfl
  have e1 : ∀ i, T1 R T n 1 i = T 1 i := fun i => rfl
  have e2 : ∀ i, T1 R T n 2 i = T 2 i := fun i => rfl
  have e3 : ∀ i, T1 R T n 3 i = fw R T n i := fun i => rfl
  have e4 : ∀ i, T1 R T n 4 i = bk R T i := fun i => rfl
  have eE : ∀ i, aE (T1 R T n) i = aE T i := fun i => rfl
  have eW : ∀ i, aW (T1 R T n) i = aW T i := fun i => rfl
  have eL : ∀ i, aL R (T1 R T n) n i = aL R T n i := fun i => rfl
  obtain ⟨g1, g2, g3, g4, g5, g6, g7⟩ := h
  refine ⟨⟨g1, by rw [eE, ← g4]; exact g2, by rw [eE, ← g4]; exact g3, rfl, g5, g6, g7⟩, fun i hi => ?_⟩
  obtain ⟨x1, x2, x3, x4, x5, x6⟩ := g6 i hi
  obtain ⟨a, b, c⟩ := fwN_s hR h0 hi
  have fb := bsI_b (fwF R T i) (fwN R T n i)
  have ll := h0.lim hi
  rw [e0, e3, e4, eE, eW, eL]
  have ef : fw R T n i = bsI (fwF R T i) (fwN R T n i) := rfl
  have uf : aE T i + fw R T n i ≤ aL R T n i := by
    by_cases z : fwN R T n i = 0
    · omega
    · have := (fwP_t (b (fwN R T n i - 1) (by omega))).1; omega
  refine ⟨⟨by omega, uf⟩, ?_, fun x hx1 hx2 => ?_⟩
  · by_cases c0 : i = 0
    · rw [bk, if_pos c0, if_pos c0]; omega
    · rw [bk, if_neg c0, if_neg c0, eE]
      obtain ⟨a', b', c'⟩ := bkN_s hR h0 hi c0
      have bb := bsI_b (bkF R T i) (bkN R T i)
      refine ⟨bb.1, ?_⟩
      by_cases z : bkN R T i = 0
      · have := g7 (i - 1) (by omega); rw [show i - 1 + 1 = i by omega] at this; omega
      · have := (bkP_t (b' (bkN R T i - 1) (by omega))).1; omega
  · by_cases q1 : x < T 0 i
    · by_cases c0 : i = 0
      · rw [bk, if_pos c0] at hx1; omega
      · rw [bk, if_neg c0] at hx1
        obtain ⟨a', b', c'⟩ := bkN_s hR h0 hi c0
        have bb := bsI_b (bkF R T i) (bkN R T i)
        have := (bkP_t (b' (T 0 i - 1 - x).toNat (by omega))).2
        rwa [show T 1 i - 1 - (((T 0 i - 1 - x).toNat : Nat) : Int) = x + aW T i by unfold aW; omega] at this
    · by_cases q2 : x < aE T i
      · have hx3 : x < T 0 i + T 2 i := q2
        have := (ali_t1 (x6 (x - T 0 i).toNat (by omega))).1
        rwa [show T 1 i + (((x - T 0 i).toNat : Nat) : Int) = x + aW T i by unfold aW; omega] at this
      · have := (fwP_t (b (x - aE T i).toNat (by omega))).2
        rwa [show aE T i + (((x - aE T i).toNat : Nat) : Int) + aW T i = x + aW T i by omega] at this
theorem shr_TI {R : Nat → Int} {T : jH} {n i : Nat} (h : TI R T n) (hi : i + 1 < n) : TI R (shr R T i) n := by
  rw [shr]
  by_cases c : aE T i + T 3 i ≤ T 0 (i + 1) - T 4 (i + 1)
  · rw [if_pos c]; exact h
  · rw [if_neg c]
    have gb := bsI_b (shF R T i (T 0 (i + 1) - T 4 (i + 1))) (aE T i + T 3 i - (T 0 (i + 1) - T 4 (i + 1))).toNat
    have eg : shG R T i = bsI (shF R T i (T 0 (i + 1) - T 4 (i + 1))) (aE T i + T 3 i - (T 0 (i + 1) - T 4 (i + 1))).toNat := rfl
    generalize shG R T i = g at eg ⊢
    obtain ⟨a, b⟩ := h
    have bi := b i (by omega)
    have bi1 := b (i + 1) hi
    rw [if_neg (by omega), show i + 1 - 1 = i by omega] at bi1
    have el : aL R T n i = T 0 (i + 1) := by rw [aL, if_pos hi]
    rw [el] at bi
    generalize gT : hs (hs T 3 i (T 0 (i + 1) - T 4 (i + 1) + g - aE T i)) 4 (i + 1) (T 4 (i + 1) - g) = U
    have e0 : U 0 = T 0 := by rw [← gT, hs_O (by decide), hs_O (by decide)]
    have e1 : U 1 = T 1 := by rw [← gT, hs_O (by decide), hs_O (by decide)]
    have e2 : U 2 = T 2 := by rw [← gT, hs_O (by decide), hs_O (by decide)]
    have e3 : ∀ q, U 3 q = if q = i then T 0 (i + 1) - T 4 (i + 1) + g - aE T i else T 3 q := by
      intro q
      rw [← gT, hs_o (by decide)]
      by_cases c : q = i
      · subst c; rw [hs_s, if_pos rfl]
      · rw [hs_k c, if_neg c]
    have e4 : ∀ q, U 4 q = if q = i + 1 then T 4 (i + 1) - g else T 4 q := by
      intro q
      rw [← gT]
      by_cases c : q = i + 1
      · subst c; rw [hs_s, if_pos rfl]
      · rw [hs_k c, if_neg c, hs_o (by decide)]
    have eE : ∀ q, aE U q = aE T q := fun q => by rw [aE, aE, e0, e2]
    have eW : ∀ q, aW U q = aW T q := fun q => by rw [aW, aW, e0, e1]
    have eL : ∀ q, aL R U n q = aL R T n q := fun q => by rw [aL, aL, e0]
    refine ⟨?_, fun q hq => ?_⟩
    · refine ⟨a.1, by rw [eE]; exact a.2.1, by rw [eE]; exact a.2.2.1, rfl, by rw [e0, e1, e2]; exact a.2.2.2.2.1, fun q hq => ?_, fun q hq => ?_⟩
      · rw [e0, e1, e2, eE]; exact a.2.2.2.2.2.1 q hq
      · rw [eE, e0]; exact a.2.2.2.2.2.2 q hq
    · have bq := b q hq
      rw [e0, e3, e4, eE, eW, eL, eE]
      by_cases c1 : q = i
      · subst c1
        rw [if_pos rfl, if_neg (show ¬ q = q + 1 by omega), el]
        refine ⟨⟨by omega, by omega⟩, bq.2.1, fun x x1 x2 => bq.2.2 x x1 (by omega)⟩
      · rw [if_neg c1]
        by_cases c2 : q = i + 1
        · subst c2
          rw [if_pos rfl]
          refine ⟨bq.1, ⟨by omega, ?_⟩, fun x x1 x2 => bq.2.2 x (by omega) x2⟩
          rw [if_neg (by omega), show i + 1 - 1 = i by omega]; omega
        · rw [if_neg c2]; exact bq
theorem shs_TI {R : Nat → Int} {T : jH} {n : Nat} (h : TI R T n) : ∀ i, i + 1 ≤ n → TI R (shs R T i) n := by
  intro i
  induction i with
  | zero => intro _; exact h
  | succ i ih => intro hi; exact shr_TI (ih (by omega)) (by omega)
/-- the anchors of R, for a least length -/
def anN (R : Nat → Int) (lst : Int) : Nat := (chS R lst (R 70).toNat).2.1
def anT (R : Nat → Int) (lst : Int) : jH := shs R (T1 R (chS R lst (R 70).toNat).1 (anN R lst)) (anN R lst - 1)
theorem an_TI {R : Nat → Int} (hR : Rok R) {lst : Int} (l2 : 2 ≤ lst) : TI R (anT R lst) (anN R lst) := by
  have c := chS_CI hR l2 (R 70).toNat (by have := hR.2.2.1; omega)
  exact shs_TI (T1_TI hR c) _ (by have := c.1; unfold anN; omega)
/-- the origins, an anchor after the other -/
def ogF (R : Nat → Int) (T : jH) : Nat → Nat → Nat → Int
  | 0 => fun r i => if r = 0 then -1 else R (71 + i)
  | a + 1 => fun r i => if T 0 a - T 4 a ≤ (i : Int) ∧ (i : Int) < aE T a + T 3 a then (if r = 0 then (i : Int) + aW T a else (R (71 + i) - R (6 + ((i : Int) + aW T a).toNat)) % 256) else ogF R T a r i
def ogT (R : Nat → Int) (lst : Int) : jH := ogF R (anT R lst) (anN R lst)
