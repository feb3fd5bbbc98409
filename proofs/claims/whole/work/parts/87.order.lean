/-! the order of the copies -/
def spl (S : jH) (i o : Nat) : Bool := decide (0 < S 2 i ∧ 0 < S 2 o ∧ S 4 i < S 1 o + S 2 o ∧ S 1 o < S 4 i + S 2 i)
theorem spl_t {S : jH} {i o : Nat} : spl S i o = true ↔ (0 < S 2 i ∧ 0 < S 2 o ∧ S 4 i < S 1 o + S 2 o ∧ S 1 o < S 4 i + S 2 i) := ⟨fun h => of_decide_eq_true h, fun h => decide_eq_true h⟩
theorem spl_f {S : jH} {i o : Nat} (h : ¬ (0 < S 2 i ∧ 0 < S 2 o ∧ S 4 i < S 1 o + S 2 o ∧ S 1 o < S 4 i + S 2 i)) : spl S i o = false := decide_eq_false h
def rdr (S : jH) (st : Nat → Int) (i o : Nat) : Int := if o ≠ i ∧ spl S i o = true ∧ st o = 1 then 1 else 0
theorem rdr_b {S : jH} {st : Nat → Int} {i o : Nat} : rdr S st i o = 0 ∨ rdr S st i o = 1 := by unfold rdr; split <;> omega
def cnR (S : jH) (st : Nat → Int) (n i : Nat) : Int := sm (rdr S st i) n
theorem cnR_b {S : jH} {st : Nat → Int} {i : Nat} (n : Nat) : 0 ≤ cnR S st n i ∧ cnR S st n i ≤ n := sm_b n (fun o _ => rdr_b)
theorem cnR_s {S : jH} {st : Nat → Int} {n i : Nat} : cnR S st (n + 1) i = cnR S st n i + rdr S st i n := rfl
def lf (st : Nat → Int) (k : Nat) : Int := if st k = 1 then 1 else 0
theorem lf_b {st : Nat → Int} {k : Nat} : lf st k = 0 ∨ lf st k = 1 := by unfold lf; split <;> omega
theorem lf_1 {st : Nat → Int} {k : Nat} (h : st k = 1) : lf st k = 1 := by unfold lf; rw [if_pos h]
theorem lf_0 {st : Nat → Int} {k : Nat} (h : st k ≠ 1) : lf st k = 0 := by unfold lf; rw [if_neg h]
theorem sm_up {f g : Nat → Int} {k : Nat} : ∀ n, k < n → (∀ i, i ≠ k → g i = f i) → sm g n = sm f n - f k + g k := by
  intro n
  induction n with
  | zero => intro h; omega
  | succ n ih =>
    intro h e
    show sm g n + g n = sm f n + f n - f k + g k
    by_cases c : k = n
    · subst c
      rw [sm_congr k (fun i hi => e i (by omega))]; omega
    · have := ih (by omega) e
      have := e n (by omega)
      omega
theorem sm_pos {st : Nat → Int} : ∀ n, 0 < sm (lf st) n → ∃ k, k < n ∧ st k = 1 := by
  intro n
  induction n with
  | zero => intro h; exact absurd h (by show ¬ (0 : Int) < 0; omega)
  | succ n ih =>
    intro h
    by_cases c : st n = 1
    · exact ⟨n, by omega, c⟩
    · have e : sm (lf st) (n + 1) = sm (lf st) n + lf st n := rfl
      rw [lf_0 c] at e
      obtain ⟨k, k1, k2⟩ := ih (by omega)
      exact ⟨k, by omega, k2⟩
def frP (S : jH) (st : Nat → Int) (n k : Nat) : Bool := decide (st k = 1 ∧ cnR S st n k = 0)
theorem frP_t {S : jH} {st : Nat → Int} {n k : Nat} : frP S st n k = true ↔ (st k = 1 ∧ cnR S st n k = 0) := ⟨fun h => of_decide_eq_true h, fun h => decide_eq_true h⟩
theorem frP_f {S : jH} {st : Nat → Int} {n k : Nat} (h : ¬ (st k = 1 ∧ cnR S st n k = 0)) : frP S st n k = false := decide_eq_false h
def itd (P : Nat → Bool) (n : Nat) : Nat → Int
  | 0 => -1
  | d + 1 => if P (n - 1 - d) = true then ((n - 1 - d : Nat) : Int) else itd P n d
theorem itd_s {P : Nat → Bool} {n : Nat} : ∀ d, d ≤ n → (itd P n d = -1 ∧ ∀ k, n - d ≤ k → k < n → P k = false) ∨ ∃ k : Nat, n - d ≤ k ∧ k < n ∧ itd P n d = (k : Int) ∧ P k = true ∧ ∀ j, n - d ≤ j → j < k → P j = false := by
  intro d
  induction d with
  | zero => intro _; exact Or.inl ⟨rfl, fun k h1 h2 => by omega⟩
  | succ d ih =>
    intro h
    rw [itd]
    by_cases c : P (n - 1 - d) = true
    · rw [if_pos c]
      exact Or.inr ⟨n - 1 - d, by omega, by omega, rfl, c, fun j h1 h2 => by omega⟩
    · rw [if_neg c]
      have c2 : P (n - 1 - d) = false := by cases e : P (n - 1 - d) with | false => rfl | true => exact absurd e c
      rcases ih (by omega) with ⟨a, b⟩ | ⟨k, a, b, e, f, g⟩
      · refine Or.inl ⟨a, fun k h1 h2 => ?_⟩
        by_cases q : k = n - 1 - d
        · rw [q]; exact c2
        · exact b k (by omega) h2
      · refine Or.inr ⟨k, by omega, b, e, f, fun j h1 h2 => ?_⟩
        by_cases q : j = n - 1 - d
        · rw [q]; exact c2
        · exact g j (by omega) h2
theorem itd_n {P : Nat → Bool} {n : Nat} (h : ∀ k, k < n → P k = false) : itd P n n = -1 := by
  rcases itd_s (P := P) n (Nat.le_refl _) with ⟨a, _⟩ | ⟨k, _, b, _, f, _⟩
  · exact a
  · rw [h k b] at f; exact absurd f (by decide)
theorem itd_k {P : Nat → Bool} {n k : Nat} (hk : k < n) (h : P k = true) (g : ∀ j, j < k → P j = false) : itd P n n = (k : Int) := by
  rcases itd_s (P := P) n (Nat.le_refl _) with ⟨_, a⟩ | ⟨k', _, b, e, f, g'⟩
  · rw [a k (by omega) hk] at h; exact absurd h (by decide)
  · rw [e]
    rcases Nat.lt_trichotomy k k' with q | q | q
    · rw [g' k (by omega) q] at h; exact absurd h (by decide)
    · rw [q]
    · rw [g k' q] at f; exact absurd f (by decide)
def smd (S : jH) (st : Nat → Int) (n : Nat) : Nat → Int
  | 0 => -1
  | d + 1 => if st (n - 1 - d) = 1 ∧ (smd S st n d = -1 ∨ S 2 (n - 1 - d) ≤ S 2 (smd S st n d).toNat) then ((n - 1 - d : Nat) : Int) else smd S st n d
def isS (S : jH) (st : Nat → Int) (a n : Nat) (z : Int) : Prop := (z = -1 ∧ ∀ k, a ≤ k → k < n → st k ≠ 1) ∨ ∃ k : Nat, a ≤ k ∧ k < n ∧ z = (k : Int) ∧ st k = 1 ∧ (∀ j, a ≤ j → j < n → st j = 1 → S 2 k ≤ S 2 j) ∧ ∀ j, a ≤ j → j < k → st j = 1 → S 2 k < S 2 j
theorem smd_s {S : jH} {st : Nat → Int} {n : Nat} : ∀ d, d ≤ n → isS S st (n - d) n (smd S st n d) := by
  intro d
  induction d with
  | zero => intro _; exact Or.inl ⟨rfl, fun k h1 h2 => by omega⟩
  | succ d ih =>
    intro h
    have i := ih (by omega)
    rw [smd]
    by_cases c : st (n - 1 - d) = 1 ∧ (smd S st n d = -1 ∨ S 2 (n - 1 - d) ≤ S 2 (smd S st n d).toNat)
    · rw [if_pos c]
      refine Or.inr ⟨n - 1 - d, by omega, by omega, rfl, c.1, fun j h1 h2 h3 => ?_, fun j h1 h2 => by omega⟩
      by_cases q : j = n - 1 - d
      · rw [q]; exact Int.le_refl _
      · rcases i with ⟨a, b⟩ | ⟨k, a, b, e, f, g, _⟩
        · exact absurd h3 (b j (by omega) h2)
        · have := g j (by omega) h2 h3
          have c3 := c.2
          rw [e, Int.toNat_natCast] at c3
          omega
    · rw [if_neg c]
      rcases i with ⟨a, b⟩ | ⟨k, a, b, e, f, g, g2⟩
      · refine Or.inl ⟨a, fun k h1 h2 => ?_⟩
        by_cases q : k = n - 1 - d
        · rw [q]; exact fun w => c ⟨w, Or.inl a⟩
        · exact b k (by omega) h2
      · refine Or.inr ⟨k, by omega, b, e, f, fun j h1 h2 h3 => ?_, fun j h1 h2 h3 => ?_⟩
        · by_cases q : j = n - 1 - d
          · subst q
            by_cases r : S 2 k ≤ S 2 (n - 1 - d)
            · exact r
            · exact absurd ⟨h3, Or.inr (by rw [e, Int.toNat_natCast]; omega)⟩ c
          · exact g j (by omega) h2 h3
        · by_cases q : j = n - 1 - d
          · subst q
            by_cases r : S 2 k < S 2 (n - 1 - d)
            · exact r
            · exact absurd ⟨h3, Or.inr (by rw [e, Int.toNat_natCast]; omega)⟩ c
          · exact g2 j (by omega) h2 h3
theorem isS_u {S : jH} {st : Nat → Int} {n : Nat} {z z' : Int} (h : isS S st 0 n z) (h' : isS S st 0 n z') : z = z' := by
  rcases h with ⟨a, b⟩ | ⟨k, _, b, e, f, g, g2⟩
  · rcases h' with ⟨a', _⟩ | ⟨k', _, b', e', f', _, _⟩
    · omega
    · exact absurd f' (b k' (by omega) b')
  · rcases h' with ⟨_, b'⟩ | ⟨k', _, b', e', f', g', g2'⟩
    · exact absurd f (b' k (by omega) b)
    · rcases Nat.lt_trichotomy k k' with q | q | q
      · have := g2' k (by omega) q f; have := g k' (by omega) b' f'; omega
      · omega
      · have := g2 k' (by omega) q f'; have := g' k (by omega) b f; omega
def orI (S : jH) (n : Nat) (Q : jH) : Int := itd (frP S (Q 0) n) n n
def orM (S : jH) (n : Nat) (Q : jH) : Int := smd S (Q 0) n n
def or1 (S : jH) (n : Nat) (Q : jH) : jH := if orI S n Q = -1 then hs Q 0 (orM S n Q).toNat 2 else hs (hs (hs Q 0 (orI S n Q).toNat 0) 1 (Q 2 0).toNat (orI S n Q)) 2 0 (Q 2 0 + 1)
def orT (S : jH) (n : Nat) : Nat → jH
  | 0 => fun r i => if r = 0 then (if 0 < S 2 i then 1 else 0) else 0
  | k + 1 => or1 S n (orT S n k)
def orW (S : jH) (n : Nat) : Int := sm (lf (orT S n 0 0)) n
def OI (S : jH) (n : Nat) (r : Int) (Q : jH) : Prop := (∀ k, k < n → (Q 0 k = 0 ∨ Q 0 k = 1 ∨ Q 0 k = 2) ∧ (Q 0 k ≠ 0 → 0 < S 2 k)) ∧ sm (lf (Q 0)) n = orW S n - r ∧ (0 ≤ Q 2 0 ∧ Q 2 0 ≤ r) ∧ ∀ i : Nat, (i : Int) < Q 2 0 → 0 ≤ Q 1 i ∧ Q 1 i < (n : Int) ∧ Q 0 (Q 1 i).toNat = 0 ∧ 0 < S 2 (Q 1 i).toNat
theorem orW_b {S : jH} {n : Nat} : 0 ≤ orW S n ∧ orW S n ≤ n := sm_b n (fun i _ => lf_b)
theorem OI_0 {S : jH} {n : Nat} : OI S n 0 (orT S n 0) := by
  refine ⟨fun k hk => ?_, by show orW S n = orW S n - 0; omega, ⟨Int.le_refl _, Int.le_refl _⟩, fun i hi => absurd hi (by show ¬ (i : Int) < 0; omega)⟩
  show ((if 0 < S 2 k then (1 : Int) else 0) = 0 ∨ (if 0 < S 2 k then (1 : Int) else 0) = 1 ∨ (if 0 < S 2 k then (1 : Int) else 0) = 2) ∧ ((if 0 < S 2 k then (1 : Int) else 0) ≠ 0 → 0 < S 2 k)
  split <;> omega
/-- what one round takes: a copy that is left -/
theorem OI.nx {S : jH} {n : Nat} {r : Int} {Q : jH} (h : OI S n r Q) (hr : r < orW S n) : (orI S n Q = -1 ∧ ∃ k : Nat, k < n ∧ orM S n Q = (k : Int) ∧ Q 0 k = 1) ∨ ∃ k : Nat, k < n ∧ orI S n Q = (k : Int) ∧ Q 0 k = 1 := by
  rcases itd_s (P := frP S (Q 0) n) n (Nat.le_refl _) with ⟨a, _⟩ | ⟨k, _, b, e, f, _⟩
  · refine Or.inl ⟨a, ?_⟩
    have i := smd_s (S := S) (st := Q 0) (n := n) n (Nat.le_refl _)
    rw [Nat.sub_self] at i
    rcases i with ⟨_, c⟩ | ⟨k, _, k2, k3, k4, _⟩
    · obtain ⟨k, k1, k2⟩ := sm_pos (st := Q 0) n (by have := h.2.1; omega)
      exact absurd k2 (c k (by omega) k1)
    · exact ⟨k, k2, k3, k4⟩
  · exact Or.inr ⟨k, b, e, (frP_t.mp f).1⟩
theorem or1_a {S : jH} {n : Nat} {Q : jH} {k : Nat} (h : orI S n Q = -1) (e : orM S n Q = (k : Int)) : or1 S n Q = hs Q 0 k 2 := by rw [or1, if_pos h, e, Int.toNat_natCast]
theorem or1_b {S : jH} {n : Nat} {Q : jH} {k : Nat} (e : orI S n Q = (k : Int)) : or1 S n Q = hs (hs (hs Q 0 k 0) 1 (Q 2 0).toNat (k : Int)) 2 0 (Q 2 0 + 1) := by rw [or1, if_neg (by omega), e, Int.toNat_natCast]
theorem lf_up {st st' : Nat → Int} {k n : Nat} (hk : k < n) (h1 : st k = 1) (h2 : st' k ≠ 1) (e : ∀ i, i ≠ k → st' i = st i) : sm (lf st') n = sm (lf st) n - 1 := by
  rw [sm_up (f := lf st) (g := lf st') (k := k) n hk (fun i hi => by unfold lf; rw [e i hi]), lf_1 h1, lf_0 h2]; omega
theorem OI.st {S : jH} {n : Nat} {r : Int} {Q : jH} (h : OI S n r Q) (hr : r < orW S n) (r0 : 0 ≤ r) : OI S n (r + 1) (or1 S n Q) := by
  obtain ⟨h1, h2, h3, h4⟩ := h
  rcases OI.nx ⟨h1, h2, h3, h4⟩ hr with ⟨a, k, k1, k2, k3⟩ | ⟨k, k1, k2, k3⟩
  · rw [or1_a a k2]
    have e : ∀ i, i ≠ k → hs Q 0 k 2 0 i = Q 0 i := fun i hi => hs_k hi
    refine ⟨fun q hq => ?_, ?_, ⟨by rw [hs_o (by decide)]; exact h3.1, by rw [hs_o (by decide)]; omega⟩, fun i hi => ?_⟩
    · by_cases c : q = k
      · subst c; rw [hs_s]; exact ⟨by omega, fun _ => (h1 q hq).2 (by omega)⟩
      · rw [e q c]; exact h1 q hq
    · rw [lf_up k1 k3 (by rw [hs_s]; omega) e]; omega
    · rw [hs_o (by decide)] at hi
      rw [hs_o (by decide)]
      have b := h4 i hi
      refine ⟨b.1, b.2.1, ?_, b.2.2.2⟩
      rw [e _ (fun w => by rw [w] at b; omega)]; exact b.2.2.1
  · rw [or1_b k2]
    have e : ∀ i, i ≠ k → hs (hs (hs Q 0 k 0) 1 (Q 2 0).toNat (k : Int)) 2 0 (Q 2 0 + 1) 0 i = Q 0 i := fun i hi => by rw [hs_o (by decide), hs_o (by decide), hs_k hi]
    have e0 : hs (hs (hs Q 0 k 0) 1 (Q 2 0).toNat (k : Int)) 2 0 (Q 2 0 + 1) 0 k = 0 := by rw [hs_o (by decide), hs_o (by decide), hs_s]
    refine ⟨fun q hq => ?_, ?_, ⟨by rw [hs_s]; omega, by rw [hs_s]; omega⟩, fun i hi => ?_⟩
    · by_cases c : q = k
      · subst c; rw [e0]; exact ⟨by omega, fun w => absurd rfl w⟩
      · rw [e q c]; exact h1 q hq
    · rw [lf_up k1 k3 (by rw [e0]; omega) e]; omega
    · rw [hs_s] at hi
      by_cases c : i = (Q 2 0).toNat
      · have e1 : hs (hs (hs Q 0 k 0) 1 (Q 2 0).toNat (k : Int)) 2 0 (Q 2 0 + 1) 1 i = (k : Int) := by rw [hs_o (by decide), c, hs_s]
        rw [e1, Int.toNat_natCast, e0]
        exact ⟨by omega, by omega, rfl, (h1 k k1).2 (by omega)⟩
      · have b := h4 i (by omega)
        have e1 : hs (hs (hs Q 0 k 0) 1 (Q 2 0).toNat (k : Int)) 2 0 (Q 2 0 + 1) 1 i = Q 1 i := by rw [hs_o (by decide), hs_k c, hs_o (by decide)]
        rw [e1]
        refine ⟨b.1, b.2.1, ?_, b.2.2.2⟩
        rw [e _ (fun w => by rw [w] at b; omega)]; exact b.2.2.1
theorem OI_r {S : jH} {n : Nat} : ∀ r : Nat, (r : Int) ≤ orW S n → OI S n r (orT S n r) := by
  intro r
  induction r with
  | zero => intro _; exact OI_0
  | succ r ih =>
    intro h
    have := (ih (by omega)).st (by omega) (by omega)
    rw [show ((r + 1 : Nat) : Int) = (r : Int) + 1 by omega]
    exact this
/-- one copy gone: fewer read what the others write -/
theorem cnR_up {S : jH} {st st' : Nat → Int} {k n i : Nat} (hk : k < n) (h1 : st k = 1) (h2 : st' k ≠ 1) (e : ∀ q, q ≠ k → st' q = st q) : cnR S st' n i = cnR S st n i - (if k ≠ i ∧ spl S i k = true then 1 else 0) := by
  unfold cnR
  rw [sm_up (f := rdr S st i) (g := rdr S st' i) (k := k) n hk (fun q hq => by unfold rdr; rw [e q hq])]
  have a : rdr S st' i k = 0 := by unfold rdr; rw [if_neg (fun w => h2 w.2.2)]
  have b : rdr S st i k = if k ≠ i ∧ spl S i k = true then 1 else 0 := by
    unfold rdr
    by_cases c : k ≠ i ∧ spl S i k = true
    · rw [if_pos c, if_pos ⟨c.1, c.2, h1⟩]
    · rw [if_neg c, if_neg (fun w => c ⟨w.1, w.2.1⟩)]
  rw [a, b]; omega
def dpC (st : Nat → Int) (k : Nat) : Int := if st k = 2 then 1 else 0
def dpS (S : jH) (st : Nat → Int) (k : Nat) : Int := if st k = 2 then S 2 k else 0
theorem dpC_up {st : Nat → Int} {k n : Nat} (hk : k < n) (h1 : st k = 1) (v : Int) (st' : Nat → Int) (h2 : st' k = v) (e : ∀ i, i ≠ k → st' i = st i) : sm (dpC st') n = sm (dpC st) n + (if v = 2 then 1 else 0) := by
  rw [sm_up (f := dpC st) (g := dpC st') (k := k) n hk (fun i hi => by unfold dpC; rw [e i hi])]
  unfold dpC
  rw [h1, h2, if_neg (by omega)]; omega
theorem dpS_up {S : jH} {st : Nat → Int} {k n : Nat} (hk : k < n) (h1 : st k = 1) (v : Int) (st' : Nat → Int) (h2 : st' k = v) (e : ∀ i, i ≠ k → st' i = st i) : sm (dpS S st') n = sm (dpS S st) n + (if v = 2 then S 2 k else 0) := by
  rw [sm_up (f := dpS S st) (g := dpS S st') (k := k) n hk (fun i hi => by unfold dpS; rw [e i hi])]
  unfold dpS
  rw [h1, h2, if_neg (by omega)]; omega
/-- the class's cells -/
def ORK (h : jH) (S : jH) (n : Nat) (Q : jH) : Prop := (∀ k, k < n → h 358 k = lf (Q 0) k ∧ h 359 k = dpC (Q 0) k ∧ h 360 k = cnR S (Q 0) n k) ∧ h 356 1 = Q 2 0 ∧ h 356 2 = sm (dpC (Q 0)) n ∧ h 356 3 = sm (dpS S (Q 0)) n ∧ ∀ i : Nat, (i : Int) < Q 2 0 → h 357 i = Q 1 i
def ORR (h : jH) (n : Nat) (Q : jH) : Prop := (∀ k, k < n → h 418 k = Q 0 k) ∧ h 388 53 = Q 2 0 ∧ ∀ i : Nat, (i : Int) < Q 2 0 → h 417 i = Q 1 i
def SB9 (S : jH) (n : Nat) : Prop := n ≤ 99 ∧ ∀ q, q < n → (0 ≤ S 1 q ∧ S 1 q ≤ 64) ∧ (0 ≤ S 2 q ∧ S 2 q ≤ 64) ∧ (0 ≤ S 4 q ∧ S 4 q ≤ 64)
theorem dpS_b {S : jH} {st : Nat → Int} {N : Nat} (sb : SB9 S N) : ∀ n, n ≤ N → 0 ≤ sm (dpS S st) n ∧ sm (dpS S st) n ≤ 64 * (n : Int) := by
  intro n
  induction n with
  | zero => intro _; exact ⟨Int.le_refl _, Int.le_refl _⟩
  | succ n ih =>
    intro h
    have a := ih (by omega)
    have b := (sb.2 n (by omega)).2.1
    show 0 ≤ sm (dpS S st) n + dpS S st n ∧ sm (dpS S st) n + dpS S st n ≤ _
    unfold dpS
    unfold dpS at a
    split <;> omega
theorem dpC_b {st : Nat → Int} (n : Nat) : 0 ≤ sm (dpC st) n ∧ sm (dpC st) n ≤ n := sm_b n (fun k _ => by unfold dpC; split <;> omega)
set_option maxRecDepth 20000 in
set_option maxHeartbeats 1000000 in
theorem k_spoils (l : Launch) (h : jH) (S : jH) (n : Nat) (sb : SB9 S n) (kp : PTK h S n) (i o : Nat) (hi : i < n) (ho : o < n) : cI l 13 [.ref 339, .int (jI (i : Int)), .int (jI (o : Int))] h (fun z h' => h' = h ∧ z = zb (spl S i o)) := by
  have n99 := sb.1
  have sbi := sb.2 i (by omega)
  have sbia := sbi.1
  have sbib := sbi.2.1
  have sbic := sbi.2.2
  have kpi := kp i (by omega)
  have sbo := sb.2 o (by omega)
  have sboa := sbo.1
  have sbob := sbo.2.1
  have sboc := sbo.2.2
  have kpo := kp o (by omega)
  refine cI.ofZ rfl rfl ?_
  refine tl_iload_n rfl rfl ?_
  refine tl_if_lt (tgt := 20) rfl rfl ⟨by omega, by omega⟩ (fun c1 => ?_) (fun c1 => ?_)
  · skip
    exfalso; omega
  · show jT _ _ 4 _ _ _ _
    refine tl_iload_n rfl rfl ?_
    refine tl_bipush rfl rfl ?_
    refine tl_icmp_ge (tgt := 20) rfl rfl ⟨by omega, by omega⟩ ⟨by omega, by omega⟩ (fun c2 => ?_) (fun c2 => ?_)
    · skip
      exfalso; omega
    · show jT _ _ 10 _ _ _ _
      refine tl_iload_n rfl rfl ?_
      show jT _ _ 11 _ _ _ _
      refine tl_if_lt (tgt := 20) rfl rfl ⟨by omega, by omega⟩ (fun c3 => ?_) (fun c3 => ?_)
      · skip
        exfalso; omega
      · show jT _ _ 14 _ _ _ _
        refine tl_iload_n rfl rfl ?_
        refine tl_bipush rfl rfl ?_
        refine tl_icmp_lt (tgt := 22) rfl rfl ⟨by omega, by omega⟩ ⟨by omega, by omega⟩ (fun c4 => ?_) (fun c4 => ?_)
        · skip
          refine tl_aload_n rfl rfl ?_
          refine tl_getr (c := 6) (k9 := 8) (b := 343) rfl rfl rfl rfl ?_
          refine tl_iload_n rfl rfl ?_
          show jT _ _ 27 _ _ _ _
          refine tl_iald (n := 100) rfl rfl rfl (by omega) (by omega) ?_
          rw [Int.toNat_natCast, kpi.2.2.2]
          refine tl_istore_n rfl (Nat.le_of_ble_eq_true rfl) rfl ?_
          refine tl_aload_n rfl rfl ?_
          refine tl_getr (c := 6) (k9 := 5) (b := 340) rfl rfl rfl rfl ?_
          refine tl_iload_n rfl rfl ?_
          refine tl_iald (n := 100) rfl rfl rfl (by omega) (by omega) ?_
          rw [Int.toNat_natCast, kpo.1]
          refine tl_istore rfl (Nat.le_of_ble_eq_true rfl) rfl ?_
          show jT _ _ 37 _ _ _ _
          refine tl_aload_n rfl rfl ?_
          refine tl_getr (c := 6) (k9 := 6) (b := 341) rfl rfl rfl rfl ?_
          refine tl_iload_n rfl rfl ?_
          refine tl_iald (n := 100) rfl rfl rfl (by omega) (by omega) ?_
          rw [Int.toNat_natCast, kpi.2.1]
          refine tl_if_le (tgt := 85) rfl rfl ⟨by omega, by omega⟩ (fun c5 => ?_) (fun c5 => ?_)
          · skip
            refine tl_iconst rfl ?_
            refine tl_iret rfl ?_
            -- leaf 0 at 86
            refine ⟨_, rfl, ?_⟩
            have e : spl S i o = false := spl_f (by omega)
            rw [e]
            exact ⟨by decide, rfl, rfl⟩
          · show jT _ _ 46 _ _ _ _
            show jT _ _ 46 _ _ _ _
            refine tl_aload_n rfl rfl ?_
            refine tl_getr (c := 6) (k9 := 6) (b := 341) rfl rfl rfl rfl ?_
            refine tl_iload_n rfl rfl ?_
            refine tl_iald (n := 100) rfl rfl rfl (by omega) (by omega) ?_
            rw [Int.toNat_natCast, kpo.2.1]
            refine tl_if_le (tgt := 85) rfl rfl ⟨by omega, by omega⟩ (fun c6 => ?_) (fun c6 => ?_)
            · skip
              refine tl_iconst rfl ?_
              refine tl_iret rfl ?_
              -- leaf 1 at 86
              refine ⟨_, rfl, ?_⟩
              have e : spl S i o = false := spl_f (by omega)
              rw [e]
              exact ⟨by decide, rfl, rfl⟩
            · show jT _ _ 55 _ _ _ _
              show jT _ _ 55 _ _ _ _
              refine tl_iload_n rfl rfl ?_
              refine tl_iload rfl rfl ?_
              refine tl_aload_n rfl rfl ?_
              refine tl_getr (c := 6) (k9 := 6) (b := 341) rfl rfl rfl rfl ?_
              refine tl_iload_n rfl rfl ?_
              refine tl_iald (n := 100) rfl rfl rfl (by omega) (by omega) ?_
              rw [Int.toNat_natCast, kpo.2.1]
              refine tl_iadd rfl ?_
              show jT _ _ 65 _ _ _ _
              refine tl_icmp_ge (tgt := 85) rfl rfl ⟨by omega, by omega⟩ ⟨by omega, by omega⟩ (fun c7 => ?_) (fun c7 => ?_)
              · skip
                refine tl_iconst rfl ?_
                refine tl_iret rfl ?_
                -- leaf 2 at 86
                refine ⟨_, rfl, ?_⟩
                have e : spl S i o = false := spl_f (by omega)
                rw [e]
                exact ⟨by decide, rfl, rfl⟩
              · show jT _ _ 68 _ _ _ _
                refine tl_iload rfl rfl ?_
                refine tl_iload_n rfl rfl ?_
                refine tl_aload_n rfl rfl ?_
                refine tl_getr (c := 6) (k9 := 6) (b := 341) rfl rfl rfl rfl ?_
                show jT _ _ 75 _ _ _ _
                refine tl_iload_n rfl rfl ?_
                refine tl_iald (n := 100) rfl rfl rfl (by omega) (by omega) ?_
                rw [Int.toNat_natCast, kpi.2.1]
                refine tl_iadd rfl ?_
                refine tl_icmp_ge (tgt := 85) rfl rfl ⟨by omega, by omega⟩ ⟨by omega, by omega⟩ (fun c8 => ?_) (fun c8 => ?_)
                · skip
                  refine tl_iconst rfl ?_
                  refine tl_iret rfl ?_
                  -- leaf 3 at 86
                  refine ⟨_, rfl, ?_⟩
                  have e : spl S i o = false := spl_f (by omega)
                  rw [e]
                  exact ⟨by decide, rfl, rfl⟩
                · show jT _ _ 81 _ _ _ _
                  refine tl_iconst rfl ?_
                  show jT _ _ 82 _ _ _ _
                  refine tl_goto (tgt := 86) rfl rfl ?_
                  refine tl_iret rfl ?_
                  -- leaf 4 at 86
                  refine ⟨_, rfl, ?_⟩
                  have e : spl S i o = true := spl_t.mpr (by omega)
                  rw [e]
                  exact ⟨by decide, rfl, rfl⟩
        · show jT _ _ 20 _ _ _ _
          exfalso; omega
set_option maxRecDepth 20000 in
set_option maxHeartbeats 1000000 in
theorem k_cr_lp (l : Launch) (mem : jH) (S : jH) (n : Nat) (sb : SB9 S n) (kpm : PTK mem S n) (i : Nat) (hi9 : i < n) (P : Option Value → jH → Prop) (hP : P (some (.int (jI (cnR S (orT S n 0 0) n i)))) mem) : ∀ (m : Nat) (o : Nat), n - o < m → o ≤ n → jT l 12 5 [some (.ref 339), some (.int (jI ((i : Int)))), some (.int (jI ((n : Int)))), some (.int (jI (cnR S (orT S n 0 0) o i))), some (.int (jI ((o : Int))))] [] mem P := by
  have n99 := sb.1
  intro m
  induction m with
  | zero => intro o hk; omega
  | succ m ih =>
    intro o hk hi
    have cs := cnR_s (S := S) (st := (orT S n 0 0)) (n := o) (i := i)
    have cb := cnR_b (S := S) (st := (orT S n 0 0)) (i := i) o
    refine tl_iload rfl rfl ?_
    refine tl_iload_n rfl rfl ?_
    refine tl_icmp_ge (tgt := 36) rfl rfl ⟨by omega, by omega⟩ ⟨by omega, by omega⟩ (fun c1 => ?_) (fun c1 => ?_)
    · skip
      refine tl_iload_n rfl rfl ?_
      refine tl_iret rfl ?_
      -- leaf 0 at 37
      have e : o = n := by omega
      subst e
      exact hP
    · show jT _ _ 11 _ _ _ _
      refine tl_iload rfl rfl ?_
      show jT _ _ 13 _ _ _ _
      refine tl_iload_n rfl rfl ?_
      refine tl_icmp_eq (tgt := 30) rfl rfl ⟨by omega, by omega⟩ ⟨by omega, by omega⟩ (fun c2 => ?_) (fun c2 => ?_)
      · skip
        refine tl_iinc rfl rfl rfl ?_
        refine tl_goto (tgt := 5) rfl rfl ?_
        show jT _ _ 5 _ _ _ _
        -- leaf 1 at 5
        have e : rdr S (orT S n 0 0) i o = 0 := by unfold rdr; rw [if_neg (fun w => by omega)]
        rw [e, Int.add_zero] at cs
        have r := ih (o + 1) (by omega) (by omega)
        rw [cs] at r
        exact r
      · show jT _ _ 17 _ _ _ _
        refine tl_aload_n rfl rfl ?_
        refine tl_iload_n rfl rfl ?_
        refine tl_iload rfl rfl ?_
        show jT _ _ 21 _ _ _ _
        refine tl_s3i (k_spoils l mem S n sb kpm i o (by omega) (by omega)) rfl rfl rfl (Nat.le_of_ble_eq_true rfl) (fun z1 h1 p1 => ?_)
        obtain ⟨q1, p1⟩ := p1
        have q1 := q1.symm
        subst q1
        have b1 := zb_b (spl S i o)
        subst p1
        refine tl_if_eq (tgt := 30) rfl rfl ⟨by omega, by omega⟩ (fun c3 => ?_) (fun c3 => ?_)
        · skip
          have es := zb0 c3
          refine tl_iinc rfl rfl rfl ?_
          refine tl_goto (tgt := 5) rfl rfl ?_
          show jT _ _ 5 _ _ _ _
          -- leaf 2 at 5
          have e : rdr S (orT S n 0 0) i o = 0 := by unfold rdr; rw [if_neg (fun w => by have := w.2.1; rw [es] at this; exact absurd this (by decide))]
          rw [e, Int.add_zero] at cs
          have r := ih (o + 1) (by omega) (by omega)
          rw [cs] at r
          exact r
        · show jT _ _ 27 _ _ _ _
          have es := zb1' c3
          refine tl_iinc rfl rfl rfl ?_
          refine tl_iinc rfl rfl rfl ?_
          refine tl_goto (tgt := 5) rfl rfl ?_
          show jT _ _ 5 _ _ _ _
          -- leaf 3 at 5
          have e : rdr S (orT S n 0 0) i o = 1 := by unfold rdr; rw [if_pos ⟨by omega, es, by show (if 0 < S 2 o then (1 : Int) else 0) = 1; rw [if_pos (spl_t.mp es).2.1]⟩]
          rw [e] at cs
          have r := ih (o + 1) (by omega) (by omega)
          rw [cs] at r
          exact r
set_option maxRecDepth 20000 in
set_option maxHeartbeats 1000000 in
theorem k_countR (l : Launch) (h : jH) (S : jH) (n : Nat) (sb : SB9 S n) (kp : PTK h S n) (i : Nat) (hi : i < n) : cI l 12 [.ref 339, .int (jI (i : Int)), .int (jI (n : Int))] h (fun z h' => h' = h ∧ z = cnR S (orT S n 0 0) n i) := by
  refine cI.of rfl rfl ?_
  refine tl_iconst rfl ?_
  refine tl_istore_n rfl (Nat.le_of_ble_eq_true rfl) rfl ?_
  refine tl_iconst rfl ?_
  refine tl_istore rfl (Nat.le_of_ble_eq_true rfl) rfl ?_
  show jT _ _ 5 _ _ _ _
  -- leaf 0 at 5
  exact k_cr_lp l h S n sb kp i hi _ ⟨_, rfl, rfl, rfl⟩ _ 0 (Nat.lt_succ_self _) (Nat.zero_le _)
set_option maxRecDepth 20000 in
set_option maxHeartbeats 1000000 in
theorem k_ff_lp (l : Launch) (h : jH) (S : jH) (n : Nat) (sb : SB9 S n) (Q : jH) (k9 : ORK h S n Q) (P : Option Value → jH → Prop) (hP : P (some (.int (jI (orI S n Q)))) h) : ∀ (m : Nat) (i : Nat), n - i < m → (i ≤ n ∧ ∀ q, q < i → frP S (Q 0) n q = false) → jT l 14 2 [some (.ref 356), some (.int (jI ((n : Int)))), some (.int (jI ((i : Int))))] [] h P := by
  have n99 := sb.1
  intro m
  induction m with
  | zero => intro i hk; omega
  | succ m ih =>
    intro i hk hi
    obtain ⟨i0, i1⟩ := hi
    have kf : n ≤ i ∨ (i < n ∧ h 358 i = lf (Q 0) i ∧ (lf (Q 0) i = 0 ∨ lf (Q 0) i = 1) ∧ h 360 i = cnR S (Q 0) n i ∧ 0 ≤ cnR S (Q 0) n i ∧ cnR S (Q 0) n i ≤ n) := by
      by_cases c : i < n
      · have a := k9.1 i c
        have b := cnR_b (S := S) (st := Q 0) (i := i) n
        exact Or.inr ⟨c, a.1, lf_b, a.2.2, b.1, b.2⟩
      · exact Or.inl (by omega)
    refine tl_iload_n rfl rfl ?_
    refine tl_iload_n rfl rfl ?_
    refine tl_icmp_ge (tgt := 39) rfl rfl ⟨by omega, by omega⟩ ⟨by omega, by omega⟩ (fun c1 => ?_) (fun c1 => ?_)
    · skip
      refine tl_iconst rfl ?_
      refine tl_iret rfl ?_
      -- leaf 0 at 40
      have e : i = n := by omega
      subst e
      have := itd_n i1
      rw [orI, this] at hP
      exact hP
    · show jT _ _ 7 _ _ _ _
      refine tl_iload_n rfl rfl ?_
      show jT _ _ 8 _ _ _ _
      refine tl_bipush rfl rfl ?_
      refine tl_icmp_ge (tgt := 39) rfl rfl ⟨by omega, by omega⟩ ⟨by omega, by omega⟩ (fun c2 => ?_) (fun c2 => ?_)
      · skip
        exfalso; omega
      · show jT _ _ 13 _ _ _ _
        refine tl_aload_n rfl rfl ?_
        refine tl_getr (c := 1) (k9 := 6) (b := 358) rfl rfl rfl rfl ?_
        refine tl_iload_n rfl rfl ?_
        refine tl_zald (n := 100) rfl rfl rfl (by omega) (by omega) ?_
        rw [Int.toNat_natCast, show h 358 i = lf (Q 0) i by omega]
        refine tl_if_eq (tgt := 33) rfl rfl ⟨by omega, by omega⟩ (fun c3 => ?_) (fun c3 => ?_)
        · skip
          show jT _ _ 33 _ _ _ _
          refine tl_iinc rfl rfl rfl ?_
          refine tl_goto (tgt := 2) rfl rfl ?_
          show jT _ _ 2 _ _ _ _
          -- leaf 1 at 2
          refine ih (i + 1) (by omega) ⟨by omega, fun q hq => ?_⟩
          by_cases c : q = i
          · subst c; refine frP_f (fun w => ?_); have := lf_1 w.1; omega
          · exact i1 q (by omega)
        · show jT _ _ 22 _ _ _ _
          refine tl_aload_n rfl rfl ?_
          refine tl_getr (c := 1) (k9 := 8) (b := 360) rfl rfl rfl rfl ?_
          refine tl_iload_n rfl rfl ?_
          refine tl_iald (n := 100) rfl rfl rfl (by omega) (by omega) ?_
          rw [Int.toNat_natCast, show h 360 i = cnR S (Q 0) n i by omega]
          refine tl_if_ne (tgt := 33) rfl rfl ⟨by omega, by omega⟩ (fun c4 => ?_) (fun c4 => ?_)
          · skip
            show jT _ _ 33 _ _ _ _
            refine tl_iinc rfl rfl rfl ?_
            refine tl_goto (tgt := 2) rfl rfl ?_
            show jT _ _ 2 _ _ _ _
            -- leaf 2 at 2
            refine ih (i + 1) (by omega) ⟨by omega, fun q hq => ?_⟩
            by_cases c : q = i
            · subst c; refine frP_f (fun w => ?_); have := lf_1 w.1; omega
            · exact i1 q (by omega)
          · show jT _ _ 31 _ _ _ _
            refine tl_iload_n rfl rfl ?_
            refine tl_iret rfl ?_
            -- leaf 3 at 32
            have l1 : Q 0 i = 1 := by
              by_cases c : Q 0 i = 1
              · exact c
              · have := lf_0 c; omega
            have := itd_k (P := frP S (Q 0) n) (n := n) (k := i) (by omega) (frP_t.mpr ⟨l1, by omega⟩) i1
            rw [orI, this] at hP
            exact hP
set_option maxRecDepth 20000 in
set_option maxHeartbeats 1000000 in
theorem k_firstFree (l : Launch) (h : jH) (S : jH) (n : Nat) (sb : SB9 S n) (Q : jH) (k9 : ORK h S n Q) : cI l 14 [.ref 356, .int (jI (n : Int))] h (fun z h' => h' = h ∧ z = orI S n Q) := by
  refine cI.of rfl rfl ?_
  refine tl_iconst rfl ?_
  refine tl_istore_n rfl (Nat.le_of_ble_eq_true rfl) rfl ?_
  show jT _ _ 2 _ _ _ _
  -- leaf 0 at 2
  exact k_ff_lp l h S n sb Q k9 _ ⟨_, rfl, rfl, rfl⟩ _ 0 (Nat.lt_succ_self _) ⟨Nat.zero_le _, fun q hq => absurd hq (by omega)⟩
set_option maxRecDepth 20000 in
set_option maxHeartbeats 1000000 in
theorem k_sm_lp (l : Launch) (h : jH) (S : jH) (n : Nat) (sb : SB9 S n) (kp : PTK h S n) (Q : jH) (k9 : ORK h S n Q) (P : Option Value → jH → Prop) (hP : P (some (.int (jI (orM S n Q)))) h) : ∀ (m : Nat) (i : Nat) (f : Int) (v : Int), n - i < m → (i ≤ n ∧ ((f = -1 ∧ v = 0 ∧ ∀ k, k < i → Q 0 k ≠ 1) ∨ ∃ k : Nat, k < i ∧ f = (k : Int) ∧ v = S 2 k ∧ Q 0 k = 1 ∧ (∀ j, j < i → Q 0 j = 1 → S 2 k ≤ S 2 j) ∧ ∀ j, j < k → Q 0 j = 1 → S 2 k < S 2 j)) → jT l 15 8 [some (.ref 356), some (.ref 339), some (.int (jI ((n : Int)))), some (.int (jI (f))), some (.int (jI (v))), some (.int (jI ((i : Int))))] [] h P := by
  have n99 := sb.1
  intro m
  induction m with
  | zero => intro i f v hk; omega
  | succ m ih =>
    intro i f v hk hi
    obtain ⟨i0, i1⟩ := hi
    have kf : n ≤ i ∨ (i < n ∧ h 358 i = lf (Q 0) i ∧ (lf (Q 0) i = 0 ∧ Q 0 i ≠ 1 ∨ lf (Q 0) i = 1 ∧ Q 0 i = 1) ∧ h 341 i = S 2 i ∧ 0 ≤ S 2 i ∧ S 2 i ≤ 64) := by
      by_cases c : i < n
      · have a := k9.1 i c
        have b := (sb.2 i c).2.1
        refine Or.inr ⟨c, a.1, ?_, (kp i c).2.1, b.1, b.2⟩
        by_cases d : Q 0 i = 1
        · exact Or.inr ⟨lf_1 d, d⟩
        · exact Or.inl ⟨lf_0 d, d⟩
      · exact Or.inl (by omega)
    have fb : -1 ≤ f ∧ f ≤ 99 ∧ 0 ≤ v ∧ v ≤ 64 := by
      rcases i1 with ⟨a, b, _⟩ | ⟨k, a, b, c, _⟩
      · omega
      · have := (sb.2 k (by omega)).2.1; omega
    refine tl_iload rfl rfl ?_
    refine tl_iload_n rfl rfl ?_
    refine tl_icmp_ge (tgt := 66) rfl rfl ⟨by omega, by omega⟩ ⟨by omega, by omega⟩ (fun c1 => ?_) (fun c1 => ?_)
    · skip
      refine tl_iload_n rfl rfl ?_
      refine tl_iret rfl ?_
      -- leaf 0 at 67
      have e : i = n := by omega
      subst e
      have s9 := smd_s (S := S) (st := Q 0) (n := i) i (Nat.le_refl _)
      rw [Nat.sub_self] at s9
      have : f = orM S i Q := isS_u (S := S) (st := Q 0) (n := i) (by
        rcases i1 with ⟨a, b, c⟩ | ⟨k, a, b, c, d, e, g⟩
        · exact Or.inl ⟨a, fun k _ hk => c k hk⟩
        · exact Or.inr ⟨k, by omega, a, b, d, fun j _ => e j, fun j _ => g j⟩) s9
      rw [← this] at hP
      exact hP
    · show jT _ _ 14 _ _ _ _
      refine tl_iload rfl rfl ?_
      show jT _ _ 16 _ _ _ _
      refine tl_bipush rfl rfl ?_
      refine tl_icmp_ge (tgt := 66) rfl rfl ⟨by omega, by omega⟩ ⟨by omega, by omega⟩ (fun c2 => ?_) (fun c2 => ?_)
      · skip
        exfalso; omega
      · show jT _ _ 21 _ _ _ _
        refine tl_aload_n rfl rfl ?_
        refine tl_getr (c := 1) (k9 := 6) (b := 358) rfl rfl rfl rfl ?_
        refine tl_iload rfl rfl ?_
        refine tl_zald (n := 100) rfl rfl rfl (by omega) (by omega) ?_
        rw [Int.toNat_natCast, show h 358 i = lf (Q 0) i by omega]
        refine tl_if_eq (tgt := 60) rfl rfl ⟨by omega, by omega⟩ (fun c3 => ?_) (fun c3 => ?_)
        · skip
          show jT _ _ 60 _ _ _ _
          refine tl_iinc rfl rfl rfl ?_
          refine tl_goto (tgt := 8) rfl rfl ?_
          show jT _ _ 8 _ _ _ _
          -- leaf 1 at 8
          refine ih (i + 1) f v (by clear i1; omega) ⟨by clear i1; omega, ?_⟩
          rcases i1 with ⟨a, b, c⟩ | ⟨k, a, b, c, d, e, g⟩
          · refine Or.inl ⟨a, b, fun k hk => ?_⟩
            by_cases q : k = i
            · subst q; omega
            · exact c k (by omega)
          · refine Or.inr ⟨k, by omega, b, c, d, fun j hj hj2 => ?_, g⟩
            by_cases q : j = i
            · subst q; omega
            · exact e j (by omega) hj2
        · show jT _ _ 31 _ _ _ _
          refine tl_iload_n rfl rfl ?_
          refine tl_iconst rfl ?_
          refine tl_icmp_eq (tgt := 48) rfl rfl ⟨by omega, by omega⟩ ⟨by omega, by omega⟩ (fun c4 => ?_) (fun c4 => ?_)
          · skip
            refine tl_iload rfl rfl ?_
            refine tl_istore_n rfl (Nat.le_of_ble_eq_true rfl) rfl ?_
            show jT _ _ 51 _ _ _ _
            refine tl_aload_n rfl rfl ?_
            refine tl_getr (c := 6) (k9 := 6) (b := 341) rfl rfl rfl rfl ?_
            refine tl_iload rfl rfl ?_
            refine tl_iald (n := 100) rfl rfl rfl (by omega) (by omega) ?_
            rw [Int.toNat_natCast, show h 341 i = S 2 i by omega]
            refine tl_istore rfl (Nat.le_of_ble_eq_true rfl) rfl ?_
            refine tl_iinc rfl rfl rfl ?_
            refine tl_goto (tgt := 8) rfl rfl ?_
            show jT _ _ 8 _ _ _ _
            -- leaf 2 at 8
            refine ih (i + 1) (i : Int) (S 2 i) (by omega) ⟨by omega, Or.inr ⟨i, by omega, rfl, rfl, by omega, fun j hj hj2 => ?_, fun j hj hj2 => ?_⟩⟩
            · rcases i1 with ⟨a, b, c⟩ | ⟨k, a, b, c, d, e, g⟩
              · by_cases q : j = i
                · subst q; omega
                · exact absurd hj2 (c j (by omega))
              · exfalso; omega
            · rcases i1 with ⟨a, b, c⟩ | ⟨k, a, b, c, d, e, g⟩
              · exact absurd hj2 (c j (by omega))
              · exfalso; omega
          · show jT _ _ 36 _ _ _ _
            show jT _ _ 36 _ _ _ _
            refine tl_aload_n rfl rfl ?_
            refine tl_getr (c := 6) (k9 := 6) (b := 341) rfl rfl rfl rfl ?_
            refine tl_iload rfl rfl ?_
            refine tl_iald (n := 100) rfl rfl rfl (by omega) (by omega) ?_
            rw [Int.toNat_natCast, show h 341 i = S 2 i by omega]
            refine tl_iload rfl rfl ?_
            refine tl_icmp_ge (tgt := 60) rfl rfl ⟨by omega, by omega⟩ ⟨by omega, by omega⟩ (fun c5 => ?_) (fun c5 => ?_)
            · skip
              refine tl_iinc rfl rfl rfl ?_
              show jT _ _ 63 _ _ _ _
              refine tl_goto (tgt := 8) rfl rfl ?_
              show jT _ _ 8 _ _ _ _
              -- leaf 3 at 8
              refine ih (i + 1) f v (by clear i1; omega) ⟨by clear i1; omega, ?_⟩
              rcases i1 with ⟨a, b, c⟩ | ⟨k, a, b, c, d, e, g⟩
              · exfalso; omega
              · refine Or.inr ⟨k, by omega, b, c, d, fun j hj hj2 => ?_, g⟩
                by_cases q : j = i
                · subst q; omega
                · exact e j (by omega) hj2
            · show jT _ _ 48 _ _ _ _
              refine tl_iload rfl rfl ?_
              refine tl_istore_n rfl (Nat.le_of_ble_eq_true rfl) rfl ?_
              refine tl_aload_n rfl rfl ?_
              refine tl_getr (c := 6) (k9 := 6) (b := 341) rfl rfl rfl rfl ?_
              refine tl_iload rfl rfl ?_
              refine tl_iald (n := 100) rfl rfl rfl (by omega) (by omega) ?_
              rw [Int.toNat_natCast, show h 341 i = S 2 i by omega]
              show jT _ _ 58 _ _ _ _
              refine tl_istore rfl (Nat.le_of_ble_eq_true rfl) rfl ?_
              refine tl_iinc rfl rfl rfl ?_
              refine tl_goto (tgt := 8) rfl rfl ?_
              show jT _ _ 8 _ _ _ _
              -- leaf 4 at 8
              refine ih (i + 1) (i : Int) (S 2 i) (by omega) ⟨by omega, Or.inr ⟨i, by omega, rfl, rfl, by omega, fun j hj hj2 => ?_, fun j hj hj2 => ?_⟩⟩
              · rcases i1 with ⟨a, b, c⟩ | ⟨k, a, b, c, d, e, g⟩
                · exfalso; omega
                · by_cases q : j = i
                  · subst q; omega
                  · have := e j (by omega) hj2; omega
              · rcases i1 with ⟨a, b, c⟩ | ⟨k, a, b, c, d, e, g⟩
                · exfalso; omega
                · have := e j (by omega) hj2; omega
set_option maxRecDepth 20000 in
set_option maxHeartbeats 1000000 in
theorem k_smallest (l : Launch) (h : jH) (S : jH) (n : Nat) (sb : SB9 S n) (kp : PTK h S n) (Q : jH) (k9 : ORK h S n Q) : cI l 15 [.ref 356, .ref 339, .int (jI (n : Int))] h (fun z h' => h' = h ∧ z = orM S n Q) := by
  refine cI.of rfl rfl ?_
  refine tl_iconst rfl ?_
  refine tl_istore_n rfl (Nat.le_of_ble_eq_true rfl) rfl ?_
  refine tl_iconst rfl ?_
  refine tl_istore rfl (Nat.le_of_ble_eq_true rfl) rfl ?_
  refine tl_iconst rfl ?_
  refine tl_istore rfl (Nat.le_of_ble_eq_true rfl) rfl ?_
  show jT _ _ 8 _ _ _ _
  -- leaf 0 at 8
  exact k_sm_lp l h S n sb kp Q k9 _ ⟨_, rfl, rfl, rfl⟩ _ 0 (-1) 0 (Nat.lt_succ_self _) ⟨Nat.zero_le _, Or.inl ⟨rfl, rfl, fun k hk => absurd hk (by omega)⟩⟩
