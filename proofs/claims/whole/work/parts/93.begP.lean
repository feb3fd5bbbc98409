/-! begin: what is to be written, in which order -/
def cpL (S : jH) (p : Nat) : Nat → List Int
  | 0 => []
  | t + 1 => cpL S p t ++ [S 4 p + (if S 4 p ≤ S 1 p then (t : Int) else S 2 p - 1 - (t : Int))]
theorem cpL_len {S : jH} {p : Nat} : ∀ t, (cpL S p t).length = t := by
  intro t
  induction t with
  | zero => rfl
  | succ t ih => rw [cpL, List.length_append, ih]; rfl
def plC (S Q : jH) : Nat → List Int
  | 0 => []
  | k + 1 => plC S Q k ++ cpL S (Q 1 k).toNat (S 2 (Q 1 k).toNat).toNat
def drp (S Q : jH) (i : Int) : Nat → Bool
  | 0 => false
  | k + 1 => drp S Q i k || decide (Q 0 k = 2 ∧ S 4 k ≤ i ∧ i ≤ S 4 k + S 2 k - 1)
def kpt (S Q g : jH) (n i : Nat) : Bool := decide (g 0 i = -1) || drp S Q i n
def plX (S Q g : jH) (n : Nat) : Nat → List Int
  | 0 => []
  | i + 1 => if kpt S Q g n i = true then plX S Q g n i ++ [(i : Int)] else plX S Q g n i
def rgL (a : Nat) : Nat → List Int
  | 0 => []
  | d + 1 => rgL a d ++ [((a + d : Nat) : Int)]
theorem rgL_len {a : Nat} : ∀ d, (rgL a d).length = d := by
  intro d
  induction d with
  | zero => rfl
  | succ d ih => rw [rgL, List.length_append, ih]; rfl
theorem plX_y {S Q g : jH} {n a : Nat} : ∀ d, (∀ i, a ≤ i → i < a + d → kpt S Q g n i = true) → plX S Q g n (a + d) = plX S Q g n a ++ rgL a d := by
  intro d
  induction d with
  | zero => intro _; rw [rgL, List.append_nil, Nat.add_zero]
  | succ d ih =>
    intro h
    rw [← Nat.add_assoc, plX, if_pos (h (a + d) (by omega) (by omega)), ih (fun i h1 h2 => h i h1 (by omega)), rgL, List.append_assoc]
theorem plX_n {S Q g : jH} {n a : Nat} : ∀ d, (∀ i, a ≤ i → i < a + d → kpt S Q g n i = false) → plX S Q g n (a + d) = plX S Q g n a := by
  intro d
  induction d with
  | zero => intro _; rfl
  | succ d ih =>
    intro h
    rw [← Nat.add_assoc, plX, if_neg (by rw [h (a + d) (by omega) (by omega)]; decide), ih (fun i h1 h2 => h i h1 (by omega))]
theorem plX_m {S Q g : jH} {n a : Nat} : ∀ d, (plX S Q g n a).length ≤ (plX S Q g n (a + d)).length := by
  intro d
  induction d with
  | zero => exact Nat.le_refl _
  | succ d ih =>
    rw [← Nat.add_assoc, plX]
    split
    · rw [List.length_append]; omega
    · exact ih
theorem drp_f {S Q : jH} {i : Int} : ∀ k, (∀ q, q < k → ¬ (Q 0 q = 2 ∧ S 4 q ≤ i ∧ i ≤ S 4 q + S 2 q - 1)) → drp S Q i k = false := by
  intro k
  induction k with
  | zero => intro _; rfl
  | succ k ih => intro h; rw [drp, ih (fun q hq => h q (by omega)), decide_eq_false (h k (by omega))]; rfl
theorem drp_t {S Q : jH} {i : Int} {q : Nat} (h : Q 0 q = 2 ∧ S 4 q ≤ i ∧ i ≤ S 4 q + S 2 q - 1) : ∀ k, q < k → drp S Q i k = true := by
  intro k
  induction k with
  | zero => intro hq; omega
  | succ k ih =>
    intro hq
    rw [drp]
    by_cases c : q = k
    · subst c; rw [decide_eq_true h, Bool.or_true]
    · rw [ih (by omega), Bool.true_or]
section
variable {N9 p0 np : Nat} {os ns : Int} {S : jH}
/-- the areas lie one behind the other -/
theorem PTI.sep (I : PTI N9 os ns p0 np S) {q k : Nat} (hq : q < np) (hk : k < np) (h : q < k) : S 4 q + S 2 q + S 3 q ≤ S 4 k := by
  have b := I.bq'
  have m := (I.mono (q := q + 1) (k - (q + 1)) (by omega)).1
  rw [show q + 1 + (k - (q + 1)) = k by omega] at m
  have e := bq_s (S := S) (i := q)
  rw [b.1 q hq, b.1 k hk]
  omega
theorem PTI.dr1 (I : PTI N9 os ns p0 np S) {Q : jH} {q : Nat} {i : Int} (hq : q < np) (h1 : S 4 q ≤ i) (h2 : i < S 4 q + S 2 q) : drp S Q i np = decide (Q 0 q = 2) := by
  by_cases c : Q 0 q = 2
  · rw [decide_eq_true c]; exact drp_t ⟨c, h1, by omega⟩ np hq
  · rw [decide_eq_false c]
    refine drp_f np (fun k hk w => ?_)
    rcases Nat.lt_trichotomy k q with d | d | d
    · have := I.sep hk hq d
      have := I.pos hk
      omega
    · rw [d] at w; exact c w.1
    · have := I.sep hq hk d
      have := I.pos hq
      omega
theorem PTI.kC (I : PTI N9 os ns p0 np S) {Q : jH} {D X : List Int} {q i : Nat} (hq : q < np) (h1 : S 4 q ≤ (i : Int)) (h2 : (i : Int) < S 4 q + S 2 q) : kpt S Q (rg S D X np) np i = decide (Q 0 q = 2) := by
  have b := I.bq'.1 q hq
  have a := (I.arC (D := D) (X := X) (j := i) hq (by omega) (by omega)).1
  have p := I.pos hq
  unfold kpt
  rw [I.dr1 hq h1 h2, decide_eq_false (by rw [a]; omega), Bool.false_or]
theorem PTI.kX (I : PTI N9 os ns p0 np S) {Q : jH} {D X : List Int} {q i : Nat} (hq : q < np) (h1 : S 4 q + S 2 q ≤ (i : Int)) (h2 : (i : Int) < S 4 q + S 2 q + S 3 q) : kpt S Q (rg S D X np) np i = true := by
  have b := I.bq'.1 q hq
  have e := bq_s (S := S) (i := q)
  have a := (I.arX (D := D) (X := X) (j := i) hq (by omega) (by omega)).1
  unfold kpt
  rw [decide_eq_true a, Bool.true_or]
def kcS (S Q : jH) (k : Nat) : Int := (if Q 0 k = 2 then S 2 k else 0) + S 3 k
/-- what is kept, part by part -/
theorem PTI.plS (I : PTI N9 os ns p0 np S) {Q : jH} {D X : List Int} {q : Nat} (hq : q < np) : plX S Q (rg S D X np) np ((S 4 q).toNat + (S 2 q).toNat) = (if Q 0 q = 2 then plX S Q (rg S D X np) np (S 4 q).toNat ++ rgL (S 4 q).toNat (S 2 q).toNat else plX S Q (rg S D X np) np (S 4 q).toNat) ∧ plX S Q (rg S D X np) np ((S 4 q).toNat + (S 2 q).toNat + (S 3 q).toNat) = plX S Q (rg S D X np) np ((S 4 q).toNat + (S 2 q).toNat) ++ rgL ((S 4 q).toNat + (S 2 q).toNat) (S 3 q).toNat := by
  have b := I.bq'
  have b1 := b.1 q hq
  have b2 := b.2.2.2 q (by omega)
  have p := I.pos hq
  refine ⟨?_, plX_y _ (fun i h1 h2 => I.kX hq (by omega) (by omega))⟩
  by_cases c : Q 0 q = 2
  · rw [if_pos c]; exact plX_y _ (fun i h1 h2 => by rw [I.kC hq (by omega) (by omega)]; exact decide_eq_true c)
  · rw [if_neg c]; exact plX_n _ (fun i h1 h2 => by rw [I.kC hq (by omega) (by omega)]; exact decide_eq_false c)
theorem PTI.plL (I : PTI N9 os ns p0 np S) {Q : jH} {D X : List Int} : ∀ q, q ≤ np → ((plX S Q (rg S D X np) np (bq S q).toNat).length : Int) = sm (kcS S Q) q := by
  intro q
  induction q with
  | zero => intro _; rfl
  | succ q ih =>
    intro h
    have a := ih (by omega)
    have b := I.bq'
    have b1 := b.1 q (by omega)
    have b2 := b.2.2.2 q (by omega)
    have p := I.pos (q := q) (by omega)
    have e := bq_s (S := S) (i := q)
    have s := I.plS (Q := Q) (D := D) (X := X) (q := q) (by omega)
    rw [show (bq S (q + 1)).toNat = (S 4 q).toNat + (S 2 q).toNat + (S 3 q).toNat by omega, s.2, s.1]
    rw [show (bq S q).toNat = (S 4 q).toNat by omega] at a
    have sq : sm (kcS S Q) (q + 1) = sm (kcS S Q) q + kcS S Q q := rfl
    rw [sq, kcS]
    by_cases c : Q 0 q = 2
    · rw [if_pos c, if_pos c, List.length_append, List.length_append, rgL_len, rgL_len]; omega
    · rw [if_neg c, if_neg c, List.length_append, rgL_len]; omega
end
/-- the copies in their order -/
def dnS (S : jH) (st : Nat → Int) (k : Nat) : Int := if st k = 0 then S 2 k else 0
theorem plC_c {S Q Q' : jH} : ∀ k, (∀ i, i < k → Q 1 i = Q' 1 i) → plC S Q k = plC S Q' k := by
  intro k
  induction k with
  | zero => intro _; rfl
  | succ k ih => intro h; rw [plC, plC, ih (fun i hi => h i (by omega)), h k (by omega)]
theorem dn_0 {S : jH} {n : Nat} (sb : SB9 S n) : ∀ k, k ≤ n → sm (dnS S (orT S n 0 0)) k = 0 := by
  intro k
  induction k with
  | zero => intro _; rfl
  | succ k ih =>
    intro h
    have a := (sb.2 k (by omega)).2.1
    show sm _ k + dnS S (orT S n 0 0) k = 0
    have b : dnS S (orT S n 0 0) k = 0 := by
      show (if (if 0 < S 2 k then (1 : Int) else 0) = 0 then S 2 k else 0) = 0
      by_cases c : 0 < S 2 k
      · rw [if_pos c, if_neg (by decide)]
      · rw [if_neg c, if_pos rfl]; omega
    rw [ih (by omega), b]; rfl
theorem plC_len {S : jH} {n : Nat} (sb : SB9 S n) : ∀ r : Nat, (r : Int) ≤ orW S n → ((plC S (orT S n r) (orT S n r 2 0).toNat).length : Int) = sm (dnS S (orT S n r 0)) n := by
  intro r
  induction r with
  | zero => intro _; rw [dn_0 sb n (Nat.le_refl _)]; rfl
  | succ r ih =>
    intro h
    have i := ih (by omega)
    have oi := OI_r (S := S) (n := n) r (by omega)
    have q0 := oi.2.2.1
    show ((plC S (or1 S n (orT S n r)) (or1 S n (orT S n r) 2 0).toNat).length : Int) = sm (dnS S (or1 S n (orT S n r) 0)) n
    rcases oi.nx (by omega) with ⟨a, k, k1, k2, k3⟩ | ⟨k, k1, k2, k3⟩
    · have e2 : or1 S n (orT S n r) 2 0 = orT S n r 2 0 := by rw [or1_a a k2, hs_o (by decide)]
      rw [e2, plC_c (Q' := orT S n r) _ (fun i _ => by rw [or1_a a k2, hs_o (by decide)]), i]
      rw [sm_up (f := dnS S (orT S n r 0)) (g := dnS S (or1 S n (orT S n r) 0)) (k := k) n k1 (fun i hi => by unfold dnS; rw [or1_a a k2, hs_k hi])]
      have z1 : dnS S (orT S n r 0) k = 0 := by unfold dnS; rw [if_neg (by omega)]
      have z2 : dnS S (or1 S n (orT S n r) 0) k = 0 := by unfold dnS; rw [or1_a a k2, hs_s, if_neg (by decide)]
      rw [z1, z2]; omega
    · have e2 : or1 S n (orT S n r) 2 0 = orT S n r 2 0 + 1 := by rw [or1_b k2, hs_s]
      have e1 : or1 S n (orT S n r) 1 (orT S n r 2 0).toNat = (k : Int) := by rw [or1_b k2, hs_o (by decide), hs_s]
      rw [e2, show (orT S n r 2 0 + 1).toNat = (orT S n r 2 0).toNat + 1 by omega, plC, e1, Int.toNat_natCast, List.length_append, cpL_len, plC_c (Q' := orT S n r) _ (fun i hi => by rw [or1_b k2, hs_o (by decide), hs_k (by omega), hs_o (by decide)])]
      rw [sm_up (f := dnS S (orT S n r 0)) (g := dnS S (or1 S n (orT S n r) 0)) (k := k) n k1 (fun i hi => by unfold dnS; rw [or1_b k2, hs_o (by decide), hs_o (by decide), hs_k hi])]
      have z1 : dnS S (orT S n r 0) k = 0 := by unfold dnS; rw [if_neg (by omega)]
      have z2 : dnS S (or1 S n (orT S n r) 0) k = S 2 k := by unfold dnS; rw [or1_b k2, hs_o (by decide), hs_o (by decide), hs_s, if_pos rfl]
      have sk := (sb.2 k k1).2.1
      rw [z1, z2]; omega
theorem sm_z {st : Nat → Int} : ∀ n, sm (lf st) n = 0 → ∀ k, k < n → st k ≠ 1 := by
  intro n
  induction n with
  | zero => intro _ k hk; omega
  | succ n ih =>
    intro h k hk
    have e : sm (lf st) (n + 1) = sm (lf st) n + lf st n := rfl
    have b := sm_b (f := lf st) n (fun k _ => lf_b)
    have c := lf_b (st := st) (k := n)
    by_cases d : k = n
    · subst d; intro w; have := lf_1 w; omega
    · exact ih (by omega) k (by omega)
theorem sm_3 {S Q : jH} : ∀ n, (∀ k, k < n → Q 0 k = 0 ∨ Q 0 k = 2) → sm (dnS S (Q 0)) n + sm (kcS S Q) n = bq S n := by
  intro n
  induction n with
  | zero => intro _; rfl
  | succ n ih =>
    intro h
    have a := ih (fun k hk => h k (by omega))
    show sm (dnS S (Q 0)) n + dnS S (Q 0) n + (sm (kcS S Q) n + kcS S Q n) = bq S (n + 1)
    rw [bq_s]
    unfold dnS kcS
    unfold dnS kcS at a
    rcases h n (by omega) with e | e <;> rw [e]
    · rw [if_pos rfl, if_neg (by decide)]; omega
    · rw [if_neg (by decide), if_pos rfl]; omega
theorem plC_m {S Q : jH} {a : Nat} : ∀ d, (plC S Q a).length ≤ (plC S Q (a + d)).length := by
  intro d
  induction d with
  | zero => exact Nat.le_refl _
  | succ d ih => rw [← Nat.add_assoc, plC, List.length_append]; omega
