/-! recipes: tokens -/
def spn (B : Nat → Int) (P : Int → Bool) : Nat → Nat → Nat
  | 0, p => p
  | m + 1, p => if P (B p) = true then spn B P m (p + 1) else p
theorem spn_t {B : Nat → Int} {P : Int → Bool} {N p : Nat} (h : p < N) (c : P (B p) = true) : spn B P (N - p) p = spn B P (N - (p + 1)) (p + 1) := by
  rw [show N - p = (N - (p + 1)) + 1 by omega, spn, if_pos c]
theorem spn_f {B : Nat → Int} {P : Int → Bool} {N p : Nat} (c : N ≤ p ∨ P (B p) = false) : spn B P (N - p) p = p := by
  cases e : N - p with
  | zero => rfl
  | succ m =>
    rw [spn, if_neg]
    rcases c with c | c
    · omega
    · rw [c]; decide
theorem spn_b {B : Nat → Int} {P : Int → Bool} {N : Nat} : ∀ m p, N - p < m → p ≤ N → (p ≤ spn B P (N - p) p ∧ spn B P (N - p) p ≤ N) ∧ (∀ i, p ≤ i → i < spn B P (N - p) p → P (B i) = true) ∧ (spn B P (N - p) p < N → P (B (spn B P (N - p) p)) = false) := by
  intro m
  induction m with
  | zero => intro p h; omega
  | succ m ih =>
    intro p h hp
    by_cases c : p < N ∧ P (B p) = true
    · rw [spn_t c.1 c.2]
      have i := ih (p + 1) (by omega) (by omega)
      refine ⟨⟨by omega, i.1.2⟩, fun q q1 q2 => ?_, i.2.2⟩
      by_cases e : q = p
      · subst e; exact c.2
      · exact i.2.1 q (by omega) q2
    · have c2 : N ≤ p ∨ P (B p) = false := by
        by_cases d : p < N
        · exact Or.inr (Bool.eq_false_iff.mpr fun z => c ⟨d, z⟩)
        · exact Or.inl (by omega)
      rw [spn_f c2]
      refine ⟨⟨Nat.le_refl _, hp⟩, fun q q1 q2 => by omega, fun q => ?_⟩
      rcases c2 with d | d
      · omega
      · exact d
def lt9 (c : Int) : Bool := decide (97 ≤ c ∧ c ≤ 122)
def dt9 (c : Int) : Bool := decide (48 ≤ c ∧ c ≤ 57)
def sc9 (c : Int) : Bool := decide (c = 32)
theorem lt9_t {c : Int} : lt9 c = true ↔ (97 ≤ c ∧ c ≤ 122) := by unfold lt9; exact decide_eq_true_iff
theorem dt9_t {c : Int} : dt9 c = true ↔ (48 ≤ c ∧ c ≤ 57) := by unfold dt9; exact decide_eq_true_iff
theorem sc9_t {c : Int} : sc9 c = true ↔ c = 32 := by unfold sc9; exact decide_eq_true_iff
theorem lt9_f {c : Int} : lt9 c = false ↔ ¬ (97 ≤ c ∧ c ≤ 122) := by unfold lt9; exact decide_eq_false_iff_not
theorem dt9_f {c : Int} : dt9 c = false ↔ ¬ (48 ≤ c ∧ c ≤ 57) := by unfold dt9; exact decide_eq_false_iff_not
theorem sc9_f {c : Int} : sc9 c = false ↔ ¬ c = 32 := by unfold sc9; exact decide_eq_false_iff_not
def gt9 (B : Nat → Int) (N i : Nat) : Int := if i < N then B i else -1
theorem gt9_i {B : Nat → Int} {N i : Nat} (h : i < N) : gt9 B N i = B i := by rw [gt9, if_pos h]
theorem gt9_o {B : Nat → Int} {N i : Nat} (h : N ≤ i) : gt9 B N i = -1 := by rw [gt9, if_neg (by omega)]
def skw (B : Nat → Int) (N p : Nat) : Nat := spn B sc9 (N - p) p
def te (B : Nat → Int) (N f : Nat) : Nat := if lt9 (gt9 B N f) = true then spn B lt9 (N - f) f else if dt9 (gt9 B N f) = true then spn B dt9 (N - f) f else if f < N then f + 1 else f
def nx (B : Nat → Int) (N f : Nat) : Nat := skw B N (te B N f)
def srt9 (B : Nat → Int) (N f : Nat) : Int := if N ≤ f then 0 else if lt9 (B f) = true then 1 else if dt9 (B f) = true then 2 else 3
theorem te_b {B : Nat → Int} {N f : Nat} (h : f ≤ N) : f ≤ te B N f ∧ te B N f ≤ N ∧ (f < N → f < te B N f) := by
  unfold te
  have a := (spn_b (B := B) (P := lt9) (N := N) (N - f + 1) f (by omega) h).1
  have b := (spn_b (B := B) (P := dt9) (N := N) (N - f + 1) f (by omega) h).1
  split
  · rename_i c
    refine ⟨a.1, a.2, fun d => ?_⟩
    rw [gt9_i d] at c
    rw [spn_t d c]
    have a2 := (spn_b (B := B) (P := lt9) (N := N) (N - (f + 1) + 1) (f + 1) (by omega) (by omega)).1
    omega
  · split
    · rename_i c
      refine ⟨b.1, b.2, fun d => ?_⟩
      rw [gt9_i d] at c
      rw [spn_t d c]
      have a2 := (spn_b (B := B) (P := dt9) (N := N) (N - (f + 1) + 1) (f + 1) (by omega) (by omega)).1
      omega
    · split <;> omega
theorem skw_b {B : Nat → Int} {N p : Nat} (h : p ≤ N) : p ≤ skw B N p ∧ skw B N p ≤ N := (spn_b (B := B) (P := sc9) (N := N) (N - p + 1) p (by omega) h).1
theorem nx_b {B : Nat → Int} {N f : Nat} (h : f ≤ N) : f ≤ nx B N f ∧ nx B N f ≤ N ∧ (f < N → f < nx B N f) := by
  have a := te_b (B := B) h
  have b := skw_b (B := B) (p := te B N f) a.2.1
  unfold nx
  exact ⟨by omega, b.2, fun c => by have := a.2.2 c; omega⟩
def nF (B : Nat → Int) (f : Nat) : Nat → Int
  | 0 => 0
  | i + 1 => min (nF B f i * 10 + B (f + i) - 48) 1000
def dF (B : Nat → Int) (f : Nat) : Nat → Int
  | 0 => 0
  | i + 1 => if 1000000 < dF B f i then dF B f i else dF B f i * 10 + B (f + i) - 48
theorem ndF {B : Nat → Int} {f : Nat} : ∀ i, (∀ q, q < i → dt9 (B (f + q)) = true) → (0 ≤ nF B f i ∧ nF B f i ≤ 1000) ∧ (0 ≤ dF B f i ∧ dF B f i ≤ 10000009) ∧ nF B f i = min (dF B f i) 1000 := by
  intro i
  induction i with
  | zero => intro _; show ((0 : Int) ≤ 0 ∧ (0 : Int) ≤ 1000) ∧ ((0 : Int) ≤ 0 ∧ (0 : Int) ≤ 10000009) ∧ (0 : Int) = min 0 1000; decide
  | succ i ih =>
    intro h
    have a := ih (fun q hq => h q (by omega))
    have b := dt9_t.mp (h i (by omega))
    rw [nF, dF]
    split <;> refine ⟨⟨?_, ?_⟩, ⟨?_, ?_⟩, ?_⟩ <;> omega
def wL (B : Nat → Int) (f : Nat) : Nat → Int
  | 0 => 0
  | i + 1 => if i < 10 then wL B f i * 32 + B (f + i) - 96 else -1
def cw (k : Nat) : Nat → Int
  | 0 => 0
  | i + 1 => cw k i * 32 + (sI k).getD i 0 - 96
theorem wL_b {B : Nat → Int} {f : Nat} : ∀ i, i ≤ 10 → (∀ q, q < i → lt9 (B (f + q)) = true) → 0 ≤ wL B f i ∧ wL B f i < ((32 ^ i : Nat) : Int) ∧ (0 < i → 1 ≤ wL B f i) := by
  intro i
  induction i with
  | zero => intro _ _; exact ⟨Int.le_refl _, by show (0 : Int) < ((1 : Nat) : Int); decide, fun h => by omega⟩
  | succ i ih =>
    intro h9 h
    have a := ih (by omega) (fun q hq => h q (by omega))
    have b := lt9_t.mp (h i (by omega))
    rw [wL, if_pos (by omega), Nat.pow_succ]
    refine ⟨by omega, by omega, fun _ => by omega⟩
theorem wL_r {B : Nat → Int} {f i : Nat} (h : ∀ q, q < i → lt9 (B (f + q)) = true) : -1 ≤ wL B f i ∧ wL B f i < 1125899906842624 := by
  by_cases c : i ≤ 10
  · have a := wL_b i c h
    have p := Nat.pow_le_pow_right (show 0 < 32 by decide) c
    rw [show (32 : Nat) ^ 10 = 1125899906842624 from rfl] at p
    omega
  · cases i with
    | zero => omega
    | succ i => rw [wL, if_neg (by omega)]; exact ⟨by decide, by decide⟩
theorem sI_w : ∀ k, k < 9 → (sI k).length ≤ 10 ∧ 2 ≤ (sI k).length ∧ ∀ i, i < (sI k).length → 97 ≤ (sI k).getD i 0 ∧ (sI k).getD i 0 ≤ 122 := by decide +kernel
theorem wL_u {B : Nat → Int} {f k : Nat} (hk : k < 9) : ∀ i n, i ≤ 10 → n ≤ (sI k).length → (∀ q, q < i → lt9 (B (f + q)) = true) → wL B f i = cw k n → i = n ∧ ∀ q, q < i → B (f + q) = (sI k).getD q 0 := by
  have sw := sI_w k hk
  have cp : ∀ n, n ≤ (sI k).length → 0 ≤ cw k n ∧ (0 < n → 1 ≤ cw k n) := by
    intro n
    induction n with
    | zero => intro _; exact ⟨Int.le_refl _, fun h => by omega⟩
    | succ n ih =>
      intro h
      have a := ih (by omega)
      have b := sw.2.2 n (by omega)
      rw [cw]
      exact ⟨by omega, fun _ => by omega⟩
  intro i
  induction i with
  | zero =>
    intro n h1 h2 h3 h4
    have a := cp n h2
    have e : wL B f 0 = 0 := rfl
    rw [e] at h4
    exact ⟨by omega, fun q hq => by omega⟩
  | succ i ih =>
    intro n h1 h2 h3 h4
    have p := (wL_b (B := B) (f := f) (i + 1) h1 h3).2.2 (by omega)
    cases n with
    | zero =>
      have e : cw k 0 = 0 := rfl
      rw [e] at h4
      omega
    | succ n =>
      have b := lt9_t.mp (h3 i (by omega))
      have c := sw.2.2 n (by omega)
      rw [wL, if_pos (by omega), cw] at h4
      have r := ih n (by omega) (by omega) (fun q hq => h3 q (by omega)) (by omega)
      obtain ⟨r1, r2⟩ := r
      subst r1
      refine ⟨rfl, fun q hq => ?_⟩
      by_cases e : q = i
      · subst e; omega
      · exact r2 q (by omega)
theorem wL_c {B : Nat → Int} {f k : Nat} (hk : k < 9) : ∀ i, i ≤ (sI k).length → (∀ q, q < i → B (f + q) = (sI k).getD q 0) → wL B f i = cw k i := by
  have sw := sI_w k hk
  intro i
  induction i with
  | zero => intro _ _; rfl
  | succ i ih =>
    intro h1 h2
    rw [wL, if_pos (by omega), cw, ih (by omega) (fun q hq => h2 q (by omega)), h2 i (by omega)]
def wd (B : Nat → Int) (N f k : Nat) : Bool := decide (te B N f - f = (sI k).length ∧ ∀ i, i < (sI k).length → gt9 B N (f + i) = (sI k).getD i 0)
def wo (B : Nat → Int) (N f : Nat) : Int := if srt9 B N f = 3 then B f else if srt9 B N f = 1 then wL B f (te B N f - f) else if srt9 B N f = 2 then dF B f (te B N f - f) else 0
def nv (B : Nat → Int) (N f : Nat) : Int := nF B f (te B N f - f)
def nb (B : Nat → Int) (N f : Nat) (lo hi : Int) : Bool := decide (dt9 (gt9 B N f) = true ∧ lo ≤ nv B N f ∧ nv B N f ≤ hi)
def sg (B : Nat → Int) (N f : Nat) (c : Int) : Bool := decide (gt9 B N f = c)
theorem srt9_1 {B : Nat → Int} {N f : Nat} (h : f ≤ N) : srt9 B N f = 1 ↔ lt9 (gt9 B N f) = true := by
  unfold srt9
  by_cases a : N ≤ f
  · rw [if_pos a, gt9_o a]; exact ⟨fun q => by omega, fun q => absurd q (by decide)⟩
  · rw [if_neg a, gt9_i (by omega)]
    by_cases b : lt9 (B f) = true
    · rw [if_pos b]; exact ⟨fun _ => b, fun _ => rfl⟩
    · rw [if_neg b]; refine ⟨fun q => ?_, fun q => absurd q b⟩
      split at q <;> omega
theorem srt9_2 {B : Nat → Int} {N f : Nat} (h : f ≤ N) : srt9 B N f = 2 ↔ dt9 (gt9 B N f) = true := by
  unfold srt9
  by_cases a : N ≤ f
  · rw [if_pos a, gt9_o a]; exact ⟨fun q => by omega, fun q => absurd q (by decide)⟩
  · rw [if_neg a, gt9_i (by omega)]
    by_cases b : lt9 (B f) = true
    · have l := lt9_t.mp b
      rw [if_pos b]; exact ⟨fun q => by omega, fun q => by have := dt9_t.mp q; omega⟩
    · rw [if_neg b]
      by_cases c : dt9 (B f) = true
      · rw [if_pos c]; exact ⟨fun _ => c, fun _ => rfl⟩
      · rw [if_neg c]; exact ⟨fun q => by omega, fun q => absurd q c⟩
theorem srt9_r {B : Nat → Int} {N f : Nat} : 0 ≤ srt9 B N f ∧ srt9 B N f ≤ 3 ∧ (srt9 B N f = 0 ↔ N ≤ f) := by
  unfold srt9
  by_cases a : N ≤ f
  · rw [if_pos a]; exact ⟨by decide, by decide, fun _ => a, fun _ => rfl⟩
  · rw [if_neg a]
    split
    · exact ⟨by decide, by decide, fun q => absurd q (by decide), fun q => absurd q a⟩
    · split
      · exact ⟨by decide, by decide, fun q => absurd q (by decide), fun q => absurd q a⟩
      · exact ⟨by decide, by decide, fun q => absurd q (by decide), fun q => absurd q a⟩
theorem te_l {B : Nat → Int} {N f : Nat} (h : f ≤ N) (c : srt9 B N f = 1) : te B N f = spn B lt9 (N - f) f ∧ ∀ q, q < te B N f - f → lt9 (B (f + q)) = true := by
  have e : te B N f = spn B lt9 (N - f) f := by rw [te, if_pos ((srt9_1 h).mp c)]
  have a := (spn_b (B := B) (P := lt9) (N := N) (N - f + 1) f (by omega) h).2.1
  exact ⟨e, fun q hq => a (f + q) (by omega) (by omega)⟩
theorem te_d {B : Nat → Int} {N f : Nat} (h : f ≤ N) (c : srt9 B N f = 2) : te B N f = spn B dt9 (N - f) f ∧ ∀ q, q < te B N f - f → dt9 (B (f + q)) = true := by
  have d := (srt9_2 h).mp c
  have nl : ¬ lt9 (gt9 B N f) = true := fun q => by have := (srt9_1 h).mpr q; omega
  have e : te B N f = spn B dt9 (N - f) f := by rw [te, if_neg nl, if_pos d]
  have a := (spn_b (B := B) (P := dt9) (N := N) (N - f + 1) f (by omega) h).2.1
  exact ⟨e, fun q hq => a (f + q) (by omega) (by omega)⟩
theorem te_s {B : Nat → Int} {N f : Nat} (h : f ≤ N) (c1 : srt9 B N f ≠ 1) (c2 : srt9 B N f ≠ 2) : te B N f = if f < N then f + 1 else f := by
  rw [te, if_neg (fun q => c1 ((srt9_1 h).mpr q)), if_neg (fun q => c2 ((srt9_2 h).mpr q))]
theorem wo_r {B : Nat → Int} {N f : Nat} (h : f ≤ N) (hb : ∀ i, i < N → byt (B i)) : -1 ≤ wo B N f ∧ wo B N f < 1125899906842624 ∧ (srt9 B N f ≠ 1 → 0 ≤ wo B N f ∧ wo B N f ≤ 10000009) := by
  have sr := srt9_r (B := B) (N := N) (f := f)
  unfold wo
  by_cases a : srt9 B N f = 3
  · rw [if_pos a]
    have b := hb f (by omega)
    unfold byt at b
    exact ⟨by omega, by omega, fun _ => by omega⟩
  · rw [if_neg a]
    by_cases c : srt9 B N f = 1
    · rw [if_pos c]
      have d := wL_r (B := B) (f := f) (te_l h c).2
      exact ⟨d.1, d.2, fun q => absurd c q⟩
    · rw [if_neg c]
      by_cases d : srt9 B N f = 2
      · rw [if_pos d]
        have e := (ndF (B := B) (f := f) _ (te_d h d).2).2.1
        exact ⟨by omega, by omega, fun _ => by omega⟩
      · rw [if_neg d]; exact ⟨by decide, by decide, fun _ => by decide⟩
/-- words, signs and numbers: the two ways to tell them are one -/
theorem wd_e {B : Nat → Int} {N f k : Nat} (h : f ≤ N) (hk : k < 9) : (wd B N f k = true) ↔ (srt9 B N f = 1 ∧ wo B N f = cw k (sI k).length) := by
  have sw := sI_w k hk
  have tb := te_b (B := B) h
  unfold wd
  rw [decide_eq_true_iff]
  constructor
  · intro q
    have fN : f < N := by
      by_cases c : f < N
      · exact c
      · omega
    have g0 := q.2 0 (by omega)
    rw [Nat.add_zero] at g0
    have l0 := sw.2.2 0 (by omega)
    have s1 : srt9 B N f = 1 := (srt9_1 h).mpr (lt9_t.mpr (by omega))
    refine ⟨s1, ?_⟩
    rw [wo, if_neg (by omega), if_pos s1, q.1]
    exact wL_c hk _ (Nat.le_refl _) (fun i hi => by have := q.2 i hi; rw [gt9_i (by omega)] at this; exact this)
  · intro q
    have tl := (te_l h q.1).2
    have e := q.2
    rw [wo, if_neg (by omega), if_pos q.1] at e
    have L10 : te B N f - f ≤ 10 := by
      by_cases c : te B N f - f ≤ 10
      · exact c
      · exfalso
        obtain ⟨m, hm⟩ : ∃ m, te B N f - f = m + 1 := ⟨te B N f - f - 1, by omega⟩
        rw [hm, wL, if_neg (by omega)] at e
        have := wL_c (B := fun i => (sI k).getD i 0) (f := 0) hk (sI k).length (Nat.le_refl _) (fun q _ => by rw [Nat.zero_add])
        have p := wL_b (B := fun i => (sI k).getD i 0) (f := 0) (sI k).length sw.1 (fun q hq => lt9_t.mpr (by rw [Nat.zero_add]; exact sw.2.2 q hq))
        omega
    have u := wL_u hk _ (sI k).length L10 (Nat.le_refl _) tl e
    exact ⟨u.1, fun i hi => by rw [gt9_i (by omega)]; exact u.2 i (by omega)⟩
theorem sg_e {B : Nat → Int} {N f : Nat} (h : f ≤ N) {c : Int} (c0 : 0 ≤ c) (c1 : lt9 c = false) (c2 : dt9 c = false) : (sg B N f c = true) ↔ (srt9 B N f = 3 ∧ wo B N f = c) := by
  unfold sg
  rw [decide_eq_true_iff]
  have sr := srt9_r (B := B) (N := N) (f := f)
  constructor
  · intro q
    have fN : f < N := by
      by_cases d : f < N
      · exact d
      · rw [gt9_o (by omega)] at q; omega
    have n1 : srt9 B N f ≠ 1 := fun z => by have := (srt9_1 h).mp z; rw [q, c1] at this; cases this
    have n2 : srt9 B N f ≠ 2 := fun z => by have := (srt9_2 h).mp z; rw [q, c2] at this; cases this
    have s3 : srt9 B N f = 3 := by have := sr.2.2; omega
    rw [gt9_i fN] at q
    exact ⟨s3, by rw [wo, if_pos s3]; exact q⟩
  · intro q
    have fN : f < N := by
      by_cases d : f < N
      · exact d
      · have := sr.2.2.mpr (by omega); omega
    have e := q.2
    rw [wo, if_pos q.1] at e
    rw [gt9_i fN]; exact e
theorem nb_e {B : Nat → Int} {N f : Nat} (h : f ≤ N) {lo hi : Int} (h9 : hi ≤ 999) : (nb B N f lo hi = true) ↔ (srt9 B N f = 2 ∧ lo ≤ wo B N f ∧ wo B N f ≤ hi) := by
  unfold nb
  rw [decide_eq_true_iff, ← srt9_2 h]
  by_cases s2 : srt9 B N f = 2
  · have a := ndF (B := B) (f := f) _ (te_d h s2).2
    have e : wo B N f = dF B f (te B N f - f) := by rw [wo, if_neg (by omega), if_neg (by omega), if_pos s2]
    rw [e]
    unfold nv
    constructor
    · intro q; exact ⟨q.1, by omega, by omega⟩
    · intro q; exact ⟨q.1, by omega, by omega⟩
  · exact ⟨fun q => absurd q.1 s2, fun q => absurd q.1 s2⟩
theorem nb_v {B : Nat → Int} {N f : Nat} (h : f ≤ N) {lo hi : Int} (h9 : hi ≤ 999) (q : nb B N f lo hi = true) : wo B N f = nv B N f ∧ lo ≤ nv B N f ∧ nv B N f ≤ hi := by
  have a := (nb_e h h9).mp q
  have b := ndF (B := B) (f := f) _ (te_d h a.1).2
  have e : wo B N f = dF B f (te B N f - f) := by rw [wo, if_neg (by omega), if_neg (by omega), if_pos a.1]
  rw [e] at a ⊢
  unfold nv
  omega
