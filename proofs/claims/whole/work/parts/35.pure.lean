/-! what is told of the tails, as whole numbers alone -/
def zb (b : Bool) : Int := bif b then 1 else 0
theorem zb_b (b : Bool) : 0 ≤ zb b ∧ zb b ≤ 1 := by cases b <;> exact ⟨by decide, by decide⟩
theorem zb0 {b : Bool} (h : zb b = 0) : b = false := by cases b with | false => rfl | true => exact absurd h (by decide)
theorem zb0' {b : Bool} (h : ¬ zb b ≠ 0) : b = false := zb0 (by omega)
theorem zb1 {b : Bool} (h : zb b ≠ 0) : b = true := by cases b with | true => rfl | false => exact absurd rfl h
theorem zb1' {b : Bool} (h : ¬ zb b = 0) : b = true := zb1 h
theorem zb_t {b : Bool} (h : b = true) : zb b = 1 := by rw [h]; rfl
theorem zb_f {b : Bool} (h : b = false) : zb b = 0 := by rw [h]; rfl
/-- how far from k on P goes on, f at most -/
def fst (P : Nat → Bool) : Nat → Nat → Nat
  | 0, k => k
  | f + 1, k => bif P k then fst P f (k + 1) else k
theorem fst_spec (P : Nat → Bool) : ∀ f k, k ≤ fst P f k ∧ fst P f k ≤ k + f ∧ (∀ i, k ≤ i → i < fst P f k → P i = true) ∧ (fst P f k < k + f → P (fst P f k) = false) := by
  intro f
  induction f with
  | zero => intro k; exact ⟨Nat.le_refl _, Nat.le_refl _, fun i h1 h2 => by (have : i < k := h2); omega, fun h => by (have : k < k + 0 := h); omega⟩
  | succ f ih =>
    intro k
    cases e : P k with
    | false =>
      have e2 : fst P (f + 1) k = k := by rw [fst, e]; rfl
      rw [e2]
      exact ⟨Nat.le_refl _, by omega, fun i h1 h2 => by omega, fun _ => e⟩
    | true =>
      have e2 : fst P (f + 1) k = fst P f (k + 1) := by rw [fst, e]; rfl
      rw [e2]
      obtain ⟨a, b, c, d⟩ := ih (k + 1)
      refine ⟨by omega, by omega, fun i h1 h2 => ?_, fun h => d (by omega)⟩
      by_cases ei : i = k
      · subst ei; exact e
      · exact c i (by omega) h2
theorem fst_uniq {P : Nat → Bool} {f k m : Nat} (h1 : k ≤ m) (h2 : m ≤ k + f) (h3 : ∀ i, k ≤ i → i < m → P i = true) (h4 : P m = false) : fst P f k = m := by
  obtain ⟨a, b, c, d⟩ := fst_spec P f k
  by_cases e : fst P f k < m
  · have := d (by omega)
    rw [h3 _ a e] at this
    exact absurd this (by decide)
  · by_cases e2 : m < fst P f k
    · have := c m h1 e2
      rw [h4] at this
      exact absurd this (by decide)
    · omega
theorem fst_full {P : Nat → Bool} {f k : Nat} (h3 : ∀ i, k ≤ i → i < k + f → P i = true) : fst P f k = k + f := by
  obtain ⟨a, b, c, d⟩ := fst_spec P f k
  by_cases e : fst P f k < k + f
  · have := d e
    rw [h3 _ a e] at this
    exact absurd this (by decide)
  · omega
theorem fst_congr {P Q : Nat → Bool} {f k : Nat} (h : ∀ i, P i = Q i) : fst P f k = fst Q f k := by
  have : P = Q := funext h
  rw [this]
def opn (R : Nat → Int) (p : Int) : Bool := decide (0 ≤ p ∧ p < R 5 ∧ R (1103 + p.toNat) = 0)
theorem opn_t {R : Nat → Int} {p : Int} (h : opn R p = true) : 0 ≤ p ∧ p < R 5 ∧ R (1103 + p.toNat) = 0 := of_decide_eq_true h
theorem opn_t' {R : Nat → Int} {p : Int} (h : 0 ≤ p ∧ p < R 5 ∧ R (1103 + p.toNat) = 0) : opn R p = true := decide_eq_true h
theorem opn_f {R : Nat → Int} {p : Int} (h : ¬ (0 ≤ p ∧ p < R 5 ∧ R (1103 + p.toNat) = 0)) : opn R p = false := decide_eq_false h
def tsz (R : Nat → Int) (p : Int) : Nat := fst (fun i => opn R (p + i)) 64 0
def cmP (R : Nat → Int) (p q : Int) (i : Nat) : Bool := opn R (p + i) && (opn R (q + i) && decide (R (6 + (p + i).toNat) = R (6 + (q + i).toNat)))
def com (R : Nat → Int) (p q : Int) : Nat := fst (cmP R p q) 64 0
theorem cmP_t {R : Nat → Int} {p q : Int} {i : Nat} (h1 : opn R (p + i) = true) (h2 : opn R (q + i) = true) (h3 : R (6 + (p + i).toNat) = R (6 + (q + i).toNat)) : cmP R p q i = true := by rw [cmP, h1, h2, decide_eq_true h3]; rfl
theorem cmP_t1 {R : Nat → Int} {p q : Int} {i : Nat} (h : cmP R p q i = true) : opn R (p + i) = true ∧ opn R (q + i) = true ∧ R (6 + (p + i).toNat) = R (6 + (q + i).toNat) := by
  unfold cmP at h
  cases h1 : opn R (p + i) with
  | false => rw [h1, Bool.false_and] at h; exact absurd h (by decide)
  | true =>
    cases h2 : opn R (q + i) with
    | false => rw [h1, h2, Bool.false_and, Bool.and_false] at h; exact absurd h (by decide)
    | true => rw [h1, h2] at h; exact ⟨rfl, rfl, of_decide_eq_true h⟩
theorem cmP_f1 {R : Nat → Int} {p q : Int} {i : Nat} (h : opn R (p + i) = false) : cmP R p q i = false := by rw [cmP, h]; rfl
theorem cmP_f2 {R : Nat → Int} {p q : Int} {i : Nat} (h : opn R (q + i) = false) : cmP R p q i = false := by rw [cmP, h, Bool.false_and, Bool.and_false]
theorem cmP_f3 {R : Nat → Int} {p q : Int} {i : Nat} (h : R (6 + (p + i).toNat) ≠ R (6 + (q + i).toNat)) : cmP R p q i = false := by rw [cmP, decide_eq_false h, Bool.and_false, Bool.and_false]
theorem cmP_comm {R : Nat → Int} {p q : Int} (i : Nat) : cmP R p q i = cmP R q p i := by
  cases h : cmP R p q i with
  | true =>
    have := cmP_t1 h
    exact (cmP_t this.2.1 this.1 this.2.2.symm).symm
  | false =>
    cases h2 : cmP R q p i with
    | false => rfl
    | true =>
      have := cmP_t1 h2
      rw [cmP_t this.2.1 this.1 this.2.2.symm] at h
      exact absurd h (by decide)
theorem com_comm (R : Nat → Int) (p q : Int) : com R p q = com R q p := fst_congr cmP_comm
/-- the old file's length is a length -/
def Rok (R : Nat → Int) : Prop := 0 ≤ R 5 ∧ R 5 ≤ 64 ∧ 0 ≤ R 70 ∧ R 70 ≤ 64 ∧ (∀ i : Nat, (i : Int) < R 5 → byt (R (6 + i))) ∧ (∀ i : Nat, (i : Int) < R 70 → byt (R (71 + i))) ∧ ∀ i, i < 64 → R (1103 + i) = 0 ∨ R (1103 + i) = 1
theorem RS.ok {h : jH} {b : Nat} {R : Nat → Int} (hS : RS h b R) : Rok R := by
  obtain ⟨a, _, c, _⟩ := hS
  obtain ⟨f1, f2, f3, f4⟩ := a 0 (by decide)
  obtain ⟨g1, g2, g3, g4⟩ := a 1 (by decide)
  refine ⟨f2, f3, g2, g3, fun i hi => ?_, fun i hi => ?_, fun i hi => (c i hi).2⟩
  · have := (f4 i hi).2; rwa [show 5 + 65 * 0 + 1 + i = 6 + i by omega] at this
  · have := (g4 i hi).2; rwa [show 5 + 65 * 1 + 1 + i = 71 + i by omega] at this
theorem IC.ok {h s : jH} {t : Int} (hI : IC h s t) : Rok (s 390) := hI.1.ok
theorem opn_64 {R : Nat → Int} (hR : Rok R) {p : Int} (h : 64 ≤ p) : opn R p = false := opn_f (fun c => by have := hR.2.1; omega)
theorem tsz_s {R : Nat → Int} (hR : Rok R) {p : Int} (p0 : 0 ≤ p) : tsz R p ≤ 64 ∧ (∀ i : Nat, i < tsz R p → opn R (p + i) = true) ∧ opn R (p + tsz R p) = false := by
  obtain ⟨a, b, c, d⟩ := fst_spec (fun i => opn R (p + i)) 64 0
  have hb : fst (fun i => opn R (p + i)) 64 0 = tsz R p := rfl
  rw [hb] at a b c d
  refine ⟨by omega, fun i hi => c i (by omega) hi, ?_⟩
  by_cases e : tsz R p < 0 + 64
  · exact d e
  · exact opn_64 hR (by omega)
theorem tsz_u {R : Nat → Int} {p : Int} {n : Nat} (hn : n ≤ 64) (h1 : ∀ i : Nat, i < n → opn R (p + i) = true) (h2 : opn R (p + n) = false) : tsz R p = n := fst_uniq (Nat.zero_le _) (by omega) (fun i _ hi => h1 i hi) h2
theorem com_s {R : Nat → Int} (hR : Rok R) {p q : Int} (p0 : 0 ≤ p) : com R p q ≤ 64 ∧ (∀ i : Nat, i < com R p q → cmP R p q i = true) ∧ cmP R p q (com R p q) = false := by
  obtain ⟨a, b, c, d⟩ := fst_spec (cmP R p q) 64 0
  have hb : fst (cmP R p q) 64 0 = com R p q := rfl
  rw [hb] at a b c d
  refine ⟨by omega, fun i hi => c i (by omega) hi, ?_⟩
  by_cases e : com R p q < 0 + 64
  · exact d e
  · exact cmP_f1 (opn_64 hR (by omega))
theorem com_u {R : Nat → Int} {p q : Int} {n : Nat} (hn : n ≤ 64) (h1 : ∀ i : Nat, i < n → cmP R p q i = true) (h2 : cmP R p q n = false) : com R p q = n := fst_uniq (Nat.zero_le _) (by omega) (fun i _ hi => h1 i hi) h2
theorem com_le {R : Nat → Int} (hR : Rok R) {p q : Int} (p0 : 0 ≤ p) (q0 : 0 ≤ q) : com R p q ≤ tsz R p ∧ com R p q ≤ tsz R q := by
  obtain ⟨a, b, c⟩ := com_s hR (q := q) p0
  have hp := tsz_s hR p0
  have hq := tsz_s hR q0
  constructor
  · by_cases e : tsz R p < com R p q
    · have := (cmP_t1 (b _ e)).1
      rw [hp.2.2] at this
      exact absurd this (by decide)
    · omega
  · by_cases e : tsz R q < com R p q
    · have := (cmP_t1 (b _ e)).2.1
      rw [hq.2.2] at this
      exact absurd this (by decide)
    · omega
/-- which of two tails stands ahead -/
def ahd (R : Nat → Int) (p q : Int) : Bool := bif opn R (p + com R p q) then (bif opn R (q + com R p q) then decide (R (6 + (p + com R p q).toNat) < R (6 + (q + com R p q).toNat)) else false) else (bif opn R (q + com R p q) then true else decide (p < q))
def tS (R : Nat → Int) (p : Int) (i : Nat) : Int := if i < tsz R p then R (6 + (p + i).toNat) + 1 else 0
def tL (R : Nat → Int) (p q : Int) : Prop := (∃ n, (∀ i, i < n → tS R p i = tS R q i) ∧ tS R p n < tS R q n) ∨ ((∀ i, tS R p i = tS R q i) ∧ p < q)
theorem tL_as {R : Nat → Int} {p q : Int} (h1 : tL R p q) (h2 : tL R q p) : False := by
  rcases h1 with ⟨n, a, b⟩ | ⟨a, b⟩
  · rcases h2 with ⟨m, c, d⟩ | ⟨c, d⟩
    · rcases Nat.lt_trichotomy n m with e | e | e
      · have := c n e; omega
      · subst e; omega
      · have := a m e; omega
    · have := c n; omega
  · rcases h2 with ⟨m, c, d⟩ | ⟨c, d⟩
    · have := a m; omega
    · omega
theorem tL_tr {R : Nat → Int} {p q r : Int} (h1 : tL R p q) (h2 : tL R q r) : tL R p r := by
  rcases h1 with ⟨n, a, b⟩ | ⟨a, b⟩
  · rcases h2 with ⟨m, c, d⟩ | ⟨c, d⟩
    · rcases Nat.lt_trichotomy n m with e | e | e
      · exact Or.inl ⟨n, fun i hi => (a i hi).trans (c i (by omega)), by have := c n e; omega⟩
      · subst e; exact Or.inl ⟨n, fun i hi => (a i hi).trans (c i hi), by omega⟩
      · exact Or.inl ⟨m, fun i hi => (a i (by omega)).trans (c i hi), by have := a m e; omega⟩
    · exact Or.inl ⟨n, fun i hi => (a i hi).trans (c i), by have := c n; omega⟩
  · rcases h2 with ⟨m, c, d⟩ | ⟨c, d⟩
    · exact Or.inl ⟨m, fun i hi => (a i).trans (c i hi), by have := a m; omega⟩
    · exact Or.inr ⟨fun i => (a i).trans (c i), by omega⟩
theorem tS_eq {R : Nat → Int} (hR : Rok R) {p q : Int} (p0 : 0 ≤ p) (q0 : 0 ≤ q) : ∀ i, i < com R p q → tS R p i = tS R q i := by
  intro i hi
  have hc := com_s hR (q := q) p0
  have hl := com_le hR p0 q0
  rw [tS, tS, if_pos (by omega), if_pos (by omega), (cmP_t1 (hc.2.1 i hi)).2.2]
theorem tS_pos {R : Nat → Int} (hR : Rok R) {p : Int} (p0 : 0 ≤ p) {i : Nat} (hi : i < tsz R p) : 0 < tS R p i := by
  have := opn_t ((tsz_s hR p0).2.1 i hi)
  have hb := hR.2.2.2.2.1 (p + i).toNat (by omega)
  rw [tS, if_pos hi]
  have := hb.1
  omega
theorem com_end {R : Nat → Int} (hR : Rok R) {p q : Int} (p0 : 0 ≤ p) (q0 : 0 ≤ q) : (opn R (p + com R p q) = false → tsz R p = com R p q) ∧ (opn R (q + com R p q) = false → tsz R q = com R p q) ∧ (opn R (p + com R p q) = true → com R p q < tsz R p) ∧ (opn R (q + com R p q) = true → com R p q < tsz R q) := by
  have hc := com_s hR (q := q) p0
  have hl := com_le hR p0 q0
  have hp := tsz_s hR p0
  have hq := tsz_s hR q0
  refine ⟨fun h => tsz_u hc.1 (fun i hi => (cmP_t1 (hc.2.1 i hi)).1) h, fun h => tsz_u hc.1 (fun i hi => (cmP_t1 (hc.2.1 i hi)).2.1) h, fun h => ?_, fun h => ?_⟩
  · by_cases e : com R p q = tsz R p
    · rw [e, hp.2.2] at h; exact absurd h (by decide)
    · omega
  · by_cases e : com R p q = tsz R q
    · rw [e, hq.2.2] at h; exact absurd h (by decide)
    · omega
theorem tS_ends {R : Nat → Int} (hR : Rok R) {p q : Int} (p0 : 0 ≤ p) (q0 : 0 ≤ q) (e1 : opn R (p + com R p q) = false) (e2 : opn R (q + com R p q) = false) : ∀ i, tS R p i = tS R q i := by
  intro i
  have he := com_end hR p0 q0
  by_cases hi : i < com R p q
  · exact tS_eq hR p0 q0 i hi
  · rw [tS, tS, he.1 e1, he.2.1 e2, if_neg hi, if_neg hi]
/-- the three ways to stand: ahead, behind, the same -/
theorem ahd_tri {R : Nat → Int} (hR : Rok R) {p q : Int} (p0 : 0 ≤ p) (q0 : 0 ≤ q) : (ahd R p q = true → tL R p q) ∧ (ahd R p q = false → p ≠ q → tL R q p) := by
  have he := com_end hR p0 q0
  have hc := com_s hR (q := q) p0
  have hq := tS_eq hR p0 q0
  cases e1 : opn R (p + com R p q) with
  | false =>
    cases e2 : opn R (q + com R p q) with
    | false =>
      have ha : ahd R p q = decide (p < q) := by rw [ahd, e1, e2]; rfl
      have hS := tS_ends hR p0 q0 e1 e2
      rw [ha]
      exact ⟨fun h => Or.inr ⟨hS, of_decide_eq_true h⟩, fun h hn => Or.inr ⟨fun i => (hS i).symm, by have := of_decide_eq_false h; omega⟩⟩
    | true =>
      have ha : ahd R p q = true := by rw [ahd, e1, e2]; rfl
      rw [ha]
      refine ⟨fun _ => Or.inl ⟨com R p q, hq, ?_⟩, fun h => absurd h (by decide)⟩
      have := tS_pos hR q0 (he.2.2.2 e2)
      rw [tS, he.1 e1, if_neg (by omega)]; omega
  | true =>
    cases e2 : opn R (q + com R p q) with
    | false =>
      have ha : ahd R p q = false := by rw [ahd, e1, e2]; rfl
      rw [ha]
      refine ⟨fun h => absurd h (by decide), fun _ _ => Or.inl ⟨com R p q, fun i hi => (hq i hi).symm, ?_⟩⟩
      have := tS_pos hR p0 (he.2.2.1 e1)
      have e3 : tS R q (com R p q) = 0 := by rw [tS, he.2.1 e2, if_neg (by omega)]
      omega
    | true =>
      have ha : ahd R p q = decide (R (6 + (p + com R p q).toNat) < R (6 + (q + com R p q).toNat)) := by rw [ahd, e1, e2]; rfl
      have x1 : tS R p (com R p q) = R (6 + (p + com R p q).toNat) + 1 := by rw [tS, if_pos (he.2.2.1 e1)]
      have x2 : tS R q (com R p q) = R (6 + (q + com R p q).toNat) + 1 := by rw [tS, if_pos (he.2.2.2 e2)]
      have x3 : R (6 + (p + com R p q).toNat) ≠ R (6 + (q + com R p q).toNat) := by
        intro e
        have := cmP_t e1 e2 e
        rw [hc.2.2] at this
        exact absurd this (by decide)
      rw [ha]
      exact ⟨fun h => Or.inl ⟨com R p q, hq, by have := of_decide_eq_true h; omega⟩, fun h _ => Or.inl ⟨com R p q, fun i hi => (hq i hi).symm, by have := of_decide_eq_false h; omega⟩⟩
theorem ahd_as {R : Nat → Int} (hR : Rok R) {p q : Int} (p0 : 0 ≤ p) (q0 : 0 ≤ q) (h : ahd R p q = true) : ahd R q p = false := by
  cases e : ahd R q p with
  | false => rfl
  | true => exact (tL_as ((ahd_tri hR p0 q0).1 h) ((ahd_tri hR q0 p0).1 e)).elim
theorem ahd_to {R : Nat → Int} (hR : Rok R) {p q : Int} (p0 : 0 ≤ p) (q0 : 0 ≤ q) (hn : p ≠ q) (h : ahd R p q = false) : ahd R q p = true := by
  cases e : ahd R q p with
  | true => rfl
  | false => exact (tL_as ((ahd_tri hR p0 q0).2 h hn) ((ahd_tri hR q0 p0).2 e (fun x => hn x.symm))).elim
theorem ahd_tr {R : Nat → Int} (hR : Rok R) {p q r : Int} (p0 : 0 ≤ p) (q0 : 0 ≤ q) (r0 : 0 ≤ r) (h1 : ahd R p q = true) (h2 : ahd R q r = true) : ahd R p r = true := by
  have a := (ahd_tri hR p0 q0).1 h1
  have b := (ahd_tri hR q0 r0).1 h2
  have c := tL_tr a b
  cases e : ahd R p r with
  | true => rfl
  | false =>
    by_cases hn : p = r
    · subst hn; exact (tL_as a b).elim
    · exact (tL_as c ((ahd_tri hR p0 r0).2 e hn)).elim
/-- the tails that begin before P, sorted -/
def TS (R : Nat → Int) (P : Nat) (a : Nat → Int) (n : Nat) : Prop := (∀ i, i < n → opn R (a i) = true ∧ a i < (P : Int)) ∧ (∀ i j, i < j → j < n → ahd R (a i) (a j) = true) ∧ ∀ p : Nat, p < P → opn R p = true → ∃ i, i < n ∧ a i = (p : Int)
theorem TS.pos {R : Nat → Int} {P n : Nat} {a : Nat → Int} (h : TS R P a n) {i : Nat} (hi : i < n) : 0 ≤ a i ∧ a i < R 5 := by have := opn_t (h.1 i hi).1; omega
theorem TS.inj {R : Nat → Int} (hR : Rok R) {P n : Nat} {a : Nat → Int} (h : TS R P a n) {i j : Nat} (hi : i < n) (hj : j < n) (e : a i = a j) : i = j := by
  rcases Nat.lt_trichotomy i j with c | c | c
  · have x := h.2.1 i j c hj
    have y := ahd_as hR (h.pos hi).1 (h.pos hj).1 x
    rw [e] at x y
    rw [x] at y; exact absurd y (by decide)
  · exact c
  · have x := h.2.1 j i c hi
    have y := ahd_as hR (h.pos hj).1 (h.pos hi).1 x
    rw [e] at x y
    rw [x] at y; exact absurd y (by decide)
theorem TS.eq {R : Nat → Int} (hR : Rok R) {P n m : Nat} {a b : Nat → Int} (h : TS R P a n) (g : TS R P b m) : ∀ i, i < n → i < m ∧ a i = b i := by
  intro i
  induction i using Nat.strongRecOn with
  | _ i ih =>
    intro hi
    have pa := h.pos hi
    obtain ⟨j, j1, j2⟩ := g.2.2 (a i).toNat (by have := (h.1 i hi).2; omega) (by rw [show (((a i).toNat : Nat) : Int) = a i by omega]; exact (h.1 i hi).1)
    rw [show (((a i).toNat : Nat) : Int) = a i by omega] at j2
    have ji : i ≤ j := by
      by_cases c : j < i
      · have := (ih j c (by omega)).2
        have := h.inj hR (i := i) (j := j) hi (by omega) (by omega)
        omega
      · omega
    have im : i < m := by omega
    refine ⟨im, ?_⟩
    have pb := g.pos im
    obtain ⟨k, k1, k2⟩ := h.2.2 (b i).toNat (by have := (g.1 i im).2; omega) (by rw [show (((b i).toNat : Nat) : Int) = b i by omega]; exact (g.1 i im).1)
    rw [show (((b i).toNat : Nat) : Int) = b i by omega] at k2
    by_cases c : j = i
    · subst c; exact j2.symm
    · have x := g.2.1 i j (by omega) j1
      rw [j2] at x
      rcases Nat.lt_trichotomy k i with c2 | c2 | c2
      · have := (ih k c2 k1).2
        have := g.inj hR (i := k) (j := i) (by omega) im (by omega)
        omega
      · subst c2; exact k2
      · have y := h.2.1 i k c2 k1
        rw [k2] at y
        have := ahd_as hR pa.1 pb.1 y
        rw [x] at this; exact absurd this (by decide)
theorem TS.uniq {R : Nat → Int} (hR : Rok R) {P n m : Nat} {a b : Nat → Int} (h : TS R P a n) (g : TS R P b m) : n = m ∧ ∀ i, i < n → a i = b i := by
  refine ⟨?_, fun i hi => (h.eq hR g i hi).2⟩
  have x : n ≤ m := by
    by_cases c : n ≤ m
    · exact c
    · have := (h.eq hR g m (by omega)).1; omega
  have y : m ≤ n := by
    by_cases c : m ≤ n
    · exact c
    · have := (g.eq hR h n (by omega)).1; omega
  omega
def insA (a : Nat → Int) (k : Nat) (p : Int) : Nat → Int := fun i => if i < k then a i else if i = k then p else a (i - 1)
theorem TS.ins {R : Nat → Int} (hR : Rok R) {P n k : Nat} {a : Nat → Int} (h : TS R P a n) (ho : opn R P = true) (hk : k ≤ n) (h1 : ∀ i, i < k → ahd R (a i) P = true) (h2 : ∀ i, k ≤ i → i < n → ahd R P (a i) = true) : TS R (P + 1) (insA a k P) (n + 1) := by
  have e1 : ∀ i, i < k → insA a k P i = a i := fun i hi => by rw [insA, if_pos hi]
  have e2 : insA a k P k = (P : Int) := by rw [insA, if_neg (by omega), if_pos rfl]
  have e3 : ∀ i, k < i → insA a k P i = a (i - 1) := fun i hi => by rw [insA, if_neg (by omega), if_neg (by omega)]
  refine ⟨fun i hi => ?_, fun i j hij hj => ?_, fun p hp hop => ?_⟩
  · rcases Nat.lt_trichotomy i k with c | c | c
    · rw [e1 i c]; exact ⟨(h.1 i (by omega)).1, by have := (h.1 i (by omega)).2; omega⟩
    · subst c; rw [e2]; exact ⟨ho, by omega⟩
    · rw [e3 i c]; exact ⟨(h.1 (i - 1) (by omega)).1, by have := (h.1 (i - 1) (by omega)).2; omega⟩
  · rcases Nat.lt_trichotomy i k with c | c | c
    · rw [e1 i c]
      rcases Nat.lt_trichotomy j k with d | d | d
      · rw [e1 j d]; exact h.2.1 i j hij (by omega)
      · subst d; rw [e2]; exact h1 i c
      · rw [e3 j d]; exact h.2.1 i (j - 1) (by omega) (by omega)
    · subst c; rw [e2, e3 j hij]; exact h2 (j - 1) (by omega) (by omega)
    · rw [e3 i c, e3 j (by omega)]; exact h.2.1 (i - 1) (j - 1) (by omega) (by omega)
  · by_cases c : p = P
    · subst c; exact ⟨k, by omega, e2⟩
    · obtain ⟨i, i1, i2⟩ := h.2.2 p (by omega) hop
      by_cases d : i < k
      · exact ⟨i, by omega, by rw [e1 i d]; exact i2⟩
      · exact ⟨i + 1, by omega, by rw [e3 (i + 1) (by omega)]; exact i2⟩
theorem TS.skip {R : Nat → Int} {P n : Nat} {a : Nat → Int} (h : TS R P a n) (ho : opn R P = false) : TS R (P + 1) a n := by
  refine ⟨fun i hi => ⟨(h.1 i hi).1, by have := (h.1 i hi).2; omega⟩, h.2.1, fun p hp hop => ?_⟩
  by_cases c : p = P
  · subst c; rw [ho] at hop; exact absurd hop (by decide)
  · exact h.2.2 p (by omega) hop
theorem TS.none {R : Nat → Int} {a : Nat → Int} : TS R 0 a 0 := ⟨fun i hi => by omega, fun i j _ hj => by omega, fun p hp => by omega⟩
theorem TS.cnt {R : Nat → Int} (hR : Rok R) {P n : Nat} {a : Nat → Int} (h : TS R P a n) : n ≤ P := by
  induction P generalizing n a with
  | zero =>
    by_cases c : n = 0
    · omega
    · have := (h.1 0 (by omega)).2
      have := (h.pos (i := 0) (by omega)).1
      omega
  | succ P ih =>
    by_cases c : ∃ k, k < n ∧ a k = (P : Int)
    · obtain ⟨k, k1, k2⟩ := c
      have : TS R P (fun i => if i < k then a i else a (i + 1)) (n - 1) := by
        refine ⟨fun i hi => ?_, fun i j hij hj => ?_, fun p hp hop => ?_⟩
        · by_cases d : i < k
          · simp only [if_pos d]
            refine ⟨(h.1 i (by omega)).1, ?_⟩
            have x := (h.1 i (by omega)).2
            by_cases e : a i = (P : Int)
            · have := h.inj hR (i := i) (j := k) (by omega) k1 (by omega); omega
            · omega
          · simp only [if_neg d]
            refine ⟨(h.1 (i + 1) (by omega)).1, ?_⟩
            have x := (h.1 (i + 1) (by omega)).2
            by_cases e : a (i + 1) = (P : Int)
            · have := h.inj hR (i := i + 1) (j := k) (by omega) k1 (by omega); omega
            · omega
        · by_cases d : i < k
          · by_cases d2 : j < k
            · simp only [if_pos d, if_pos d2]; exact h.2.1 i j hij (by omega)
            · simp only [if_pos d, if_neg d2]; exact h.2.1 i (j + 1) (by omega) (by omega)
          · simp only [if_neg d, if_neg (show ¬ j < k by omega)]; exact h.2.1 (i + 1) (j + 1) (by omega) (by omega)
        · obtain ⟨i, i1, i2⟩ := h.2.2 p (by omega) hop
          rcases Nat.lt_trichotomy i k with d | d | d
          · exact ⟨i, by omega, by simp only [if_pos d]; exact i2⟩
          · subst d; omega
          · exact ⟨i - 1, by omega, by simp only [if_neg (show ¬ i - 1 < k by omega)]; rw [show i - 1 + 1 = i by omega]; exact i2⟩
      have := ih this
      omega
    · have : TS R P a n := by
        refine ⟨fun i hi => ⟨(h.1 i hi).1, ?_⟩, h.2.1, fun p hp hop => h.2.2 p (by omega) hop⟩
        have x := (h.1 i hi).2
        by_cases e : a i = (P : Int)
        · exact (c ⟨i, hi, e⟩).elim
        · omega
      have := ih this
      omega
/-- the sorting done with numbers alone -/
def srt (R : Nat → Int) : Nat → (Nat → Int) × Nat
  | 0 => (fun _ => 0, 0)
  | P + 1 => bif opn R P then (insA (srt R P).1 (fst (fun i => ahd R ((srt R P).1 i) P) (srt R P).2 0) P, (srt R P).2 + 1) else srt R P
theorem TS.pre {R : Nat → Int} (hR : Rok R) {P n : Nat} {a : Nat → Int} (h : TS R P a n) (p : Int) (p0 : 0 ≤ p) (pP : (P : Int) ≤ p) : (∀ i j, i ≤ j → j < n → ahd R (a j) p = true → ahd R (a i) p = true) ∧ (∀ i j, i ≤ j → j < n → ahd R (a i) p = false → ahd R p (a j) = true) ∧ ∀ i j, i ≤ j → j < n → ahd R p (a i) = true → ahd R p (a j) = true := by
  have g3 : ∀ i j, i ≤ j → j < n → ahd R p (a i) = true → ahd R p (a j) = true := by
    intro i j hij hj hi
    by_cases c : i = j
    · subst c; exact hi
    · exact ahd_tr hR p0 (h.pos (by omega)).1 (h.pos hj).1 hi (h.2.1 i j (by omega) hj)
  refine ⟨fun i j hij hj hi => ?_, fun i j hij hj hi => ?_, g3⟩
  · by_cases c : i = j
    · subst c; exact hi
    · exact ahd_tr hR (h.pos (i := i) (by omega)).1 (h.pos hj).1 p0 (h.2.1 i j (by omega) hj) hi
  · refine g3 i j hij hj (ahd_to hR (h.pos (by omega)).1 p0 ?_ hi)
    have := (h.1 i (by omega)).2
    omega
theorem srt_TS {R : Nat → Int} (hR : Rok R) : ∀ P, TS R P (srt R P).1 (srt R P).2 := by
  intro P
  induction P with
  | zero => exact TS.none
  | succ P ih =>
    cases e : opn R P with
    | false =>
      have : srt R (P + 1) = srt R P := by rw [srt, e]; rfl
      rw [this]; exact ih.skip e
    | true =>
      have : srt R (P + 1) = (insA (srt R P).1 (fst (fun i => ahd R ((srt R P).1 i) P) (srt R P).2 0) P, (srt R P).2 + 1) := by rw [srt, e]; rfl
      rw [this]
      obtain ⟨a, b, c, d⟩ := fst_spec (fun i => ahd R ((srt R P).1 i) P) (srt R P).2 0
      have pr := ih.pre hR P (by omega) (by omega)
      refine ih.ins hR e (by omega) (fun i hi => c i (by omega) hi) (fun i hi hn => ?_)
      exact pr.2.1 _ i hi hn (d (by omega))
theorem TS.srt {R : Nat → Int} (hR : Rok R) {P n : Nat} {a : Nat → Int} (h : TS R P a n) : (srt R P).2 = n ∧ ∀ i, i < n → (srt R P).1 i = a i := by
  obtain ⟨x, y⟩ := h.uniq hR (srt_TS hR P)
  exact ⟨x.symm, fun i hi => (y i hi).symm⟩
theorem TS.up {R : Nat → Int} {P Q n : Nat} {a : Nat → Int} (h : TS R P a n) (hPQ : P ≤ Q) (hP : R 5 ≤ (P : Int)) : TS R Q a n := by
  refine ⟨fun i hi => ⟨(h.1 i hi).1, by have := (h.1 i hi).2; omega⟩, h.2.1, fun p hp hop => h.2.2 p (by have := opn_t hop; omega) hop⟩
