/-! recipes: a run, seen from outside -/
def ut9 (f : Nat → Int) (k : Nat) (v : Int) : Nat → Int := fun e => if e = k then v else f e
theorem ut9_s {f : Nat → Int} {k : Nat} {v : Int} : ut9 f k v k = v := if_pos rfl
theorem ut9_o {f : Nat → Int} {k e : Nat} {v : Int} (h : e ≠ k) : ut9 f k v e = f e := if_neg h
def cl9 (T : jH) : Nat → Nat → (Nat → Int) → (Nat → Int) → Nat × Nat × (Nat → Int)
  | 0, k, _, TU => (k, 0, TU)
  | d + 1, k, OP, TU => if (k : Int) = T 4 (OP d).toNat then (if 1 < TU d then ((OP d).toNat + 1, d + 1, ut9 TU d (TU d - 1)) else cl9 T d k OP (ut9 TU d (TU d - 1))) else (k, d + 1, TU)
theorem cl9_b {T : jH} {d k : Nat} {OP TU : Nat → Int} (h : (k : Int) = T 4 (OP d).toNat) (h2 : 1 < TU d) : cl9 T (d + 1) k OP TU = ((OP d).toNat + 1, d + 1, ut9 TU d (TU d - 1)) := by rw [cl9, if_pos h, if_pos h2]
theorem cl9_c {T : jH} {d k : Nat} {OP TU : Nat → Int} (h : (k : Int) = T 4 (OP d).toNat) (h2 : ¬ 1 < TU d) : cl9 T (d + 1) k OP TU = cl9 T d k OP (ut9 TU d (TU d - 1)) := by rw [cl9, if_pos h, if_neg h2]
theorem cl9_o {T : jH} {d k : Nat} {OP TU : Nat → Int} (h : ¬ (k : Int) = T 4 (OP d).toNat) : cl9 T (d + 1) k OP TU = (k, d + 1, TU) := by rw [cl9, if_neg h]
theorem cl9_B {T : jH} {d k : Nat} {OP TU : Nat → Int} (hd : 0 < d) (h : (k : Int) = T 4 (OP (d - 1)).toNat) (h2 : 1 < TU (d - 1)) : cl9 T d k OP TU = ((OP (d - 1)).toNat + 1, d, ut9 TU (d - 1) (TU (d - 1) - 1)) := by
  obtain ⟨e, he⟩ : ∃ e, d = e + 1 := ⟨d - 1, by omega⟩
  subst he
  exact cl9_b h h2
theorem cl9_C {T : jH} {d k : Nat} {OP TU : Nat → Int} (hd : 0 < d) (h : (k : Int) = T 4 (OP (d - 1)).toNat) (h2 : ¬ 1 < TU (d - 1)) : cl9 T d k OP TU = cl9 T (d - 1) k OP (ut9 TU (d - 1) (TU (d - 1) - 1)) := by
  obtain ⟨e, he⟩ : ∃ e, d = e + 1 := ⟨d - 1, by omega⟩
  subst he
  exact cl9_c h h2
theorem cl9_O {T : jH} {d k : Nat} {OP TU : Nat → Int} (hd : 0 < d) (h : ¬ (k : Int) = T 4 (OP (d - 1)).toNat) : cl9 T d k OP TU = (k, d, TU) := by
  obtain ⟨e, he⟩ : ∃ e, d = e + 1 := ⟨d - 1, by omega⟩
  subst he
  exact cl9_o h
def pl9 (T : jH) (k : Nat) (g : jH) (n i : Nat) : Int := if T 0 k = 0 then T 2 k + (i : Int) else if T 0 k = 1 then -1 else if T 0 k = 2 then -1 else g 0 ((n : Int) - T 2 k).toNat
def vl9 (T : jH) (SD : List Int) (k : Nat) (g : jH) (n i : Nat) : Int := if T 0 k = 0 then T 3 k else if T 0 k = 1 then T 2 k else if T 0 k = 2 then SD.getD (T 2 k + (i : Int)).toNat 0 else g 1 ((n : Int) - T 2 k).toNat
def gA (T : jH) (SD : List Int) (k : Nat) (g : jH) (n : Nat) : Nat → jH
  | 0 => g
  | i + 1 => hs (hs (gA T SD k g n i) 0 (n + i) (pl9 T k (gA T SD k g n i) (n + i) i)) 1 (n + i) (vl9 T SD k (gA T SD k g n i) (n + i) i)
def wh9 (T : jH) (R5 : Int) (k n : Nat) : Int := if (T 0 k = 0 ∧ R5 < T 2 k + T 1 k) ∨ (T 0 k = 3 ∧ (n : Int) < T 2 k) then -4 else if 64 < (n : Int) + T 1 k then -5 else 0
theorem wh9_c {T : jH} {R5 : Int} {k n : Nat} : wh9 T R5 k n = -4 ∨ wh9 T R5 k n = -5 ∨ (wh9 T R5 k n = 0 ∧ (T 0 k = 0 → T 2 k + T 1 k ≤ R5) ∧ (T 0 k = 3 → T 2 k ≤ (n : Int)) ∧ (n : Int) + T 1 k ≤ 64) := by
  unfold wh9
  split
  · exact Or.inl rfl
  · split
    · exact Or.inr (Or.inl rfl)
    · exact Or.inr (Or.inr ⟨rfl, fun q => by omega, fun q => by omega, by omega⟩)
abbrev rST : Type := ((Nat × Nat) × (Nat → Int) × (Nat → Int)) × (jH × Nat) × Int
def rz (T : jH) (SD : List Int) (R5 : Int) (ns : Nat) (s : rST) : rST :=
  if s.2.2 ≠ 0 ∨ ns ≤ s.1.1.1 then s
  else if T 0 s.1.1.1 = 4 then (((s.1.1.1 + 1, s.1.1.2 + 1), ut9 s.1.2.1 s.1.1.2 (s.1.1.1 : Int), ut9 s.1.2.2 s.1.1.2 (T 1 s.1.1.1)), s.2.1, 0)
  else if wh9 T R5 s.1.1.1 s.2.1.2 ≠ 0 then (s.1, s.2.1, wh9 T R5 s.1.1.1 s.2.1.2)
  else ((((cl9 T s.1.1.2 (s.1.1.1 + 1) s.1.2.1 s.1.2.2).1, (cl9 T s.1.1.2 (s.1.1.1 + 1) s.1.2.1 s.1.2.2).2.1), s.1.2.1, (cl9 T s.1.1.2 (s.1.1.1 + 1) s.1.2.1 s.1.2.2).2.2), (gA T SD s.1.1.1 s.2.1.1 s.2.1.2 (T 1 s.1.1.1).toNat, s.2.1.2 + (T 1 s.1.1.1).toNat), 0)
section RZ
variable {T : jH} {SD : List Int} {R5 : Int} {ns k d n : Nat} {OP TU : Nat → Int} {g : jH} {w : Int}
theorem rz_s (h : w ≠ 0 ∨ ns ≤ k) : rz T SD R5 ns (((k, d), OP, TU), (g, n), w) = (((k, d), OP, TU), (g, n), w) := by rw [rz, if_pos h]
theorem rz_4 (h : k < ns) (h4 : T 0 k = 4) : rz T SD R5 ns (((k, d), OP, TU), (g, n), 0) = (((k + 1, d + 1), ut9 OP d (k : Int), ut9 TU d (T 1 k)), (g, n), 0) := by
  rw [rz, if_neg (fun q => by rcases q with q | q; exact q rfl; exact absurd (show ns ≤ k from q) (by omega)), if_pos h4]
theorem rz_w (h : k < ns) (h4 : T 0 k ≠ 4) (hw9 : wh9 T R5 k n ≠ 0) : rz T SD R5 ns (((k, d), OP, TU), (g, n), 0) = (((k, d), OP, TU), (g, n), wh9 T R5 k n) := by
  rw [rz, if_neg (fun q => by rcases q with q | q; exact q rfl; exact absurd (show ns ≤ k from q) (by omega)), if_neg h4, if_pos hw9]
theorem rz_g (h : k < ns) (h4 : T 0 k ≠ 4) (hw9 : wh9 T R5 k n = 0) : rz T SD R5 ns (((k, d), OP, TU), (g, n), 0) = ((((cl9 T d (k + 1) OP TU).1, (cl9 T d (k + 1) OP TU).2.1), OP, (cl9 T d (k + 1) OP TU).2.2), (gA T SD k g n (T 1 k).toNat, n + (T 1 k).toNat), 0) := by
  rw [rz, if_neg (fun q => by rcases q with q | q; exact q rfl; exact absurd (show ns ≤ k from q) (by omega)), if_neg h4, if_neg (fun q => q hw9)]
end RZ
def rit (T : jH) (SD : List Int) (R5 : Int) (ns : Nat) : Nat → rST → rST
  | 0, s => s
  | m + 1, s => rit T SD R5 ns m (rz T SD R5 ns s)
theorem rit_s {T : jH} {SD : List Int} {R5 : Int} {ns k d n : Nat} {OP TU : Nat → Int} {g : jH} {w : Int} (h : w ≠ 0 ∨ ns ≤ k) : ∀ m, rit T SD R5 ns m (((k, d), OP, TU), (g, n), w) = (((k, d), OP, TU), (g, n), w) := by
  intro m
  induction m with
  | zero => rfl
  | succ m ih => rw [rit, rz_s h]; exact ih
def rX (T : jH) (SD : List Int) (R5 : Int) (ns : Nat) : rST := rit T SD R5 ns 10000 (((0, 0), (fun _ => 0), (fun _ => 0)), ((fun _ _ => 0), 0), 0)
section WF
variable {D : Nat → Nat} {S : Nat → Nat → Nat} {T : jH} {ns : Nat} {SD : List Int}
theorem wfE (h : WF9 D S T ns SD) : ∀ q k, k + q = ns → ∀ e, e < D k → (k : Int) < T 4 (S k e) ∧ T 4 (S k e) ≤ (ns : Int) := by
  obtain ⟨D0, Dn, n24, st, _, _⟩ := h
  intro q
  induction q with
  | zero => intro k hk e he; rw [show k = ns by omega, Dn] at he; omega
  | succ q ih =>
    intro k hk e he
    have i := ih (k + 1) (by omega)
    have s := st k (by omega)
    by_cases c : T 0 k = 4
    · have z := s.1 c
      have y := i e (by omega)
      rw [z.2.2.1 e he] at y
      omega
    · have z := s.2 c
      by_cases ee : e < D (k + 1)
      · have y := i e ee
        rw [z.2.1 e ee] at y
        omega
      · have y := z.2.2 e (by omega) he
        omega
theorem wfI (h : WF9 D S T ns SD) : ∀ k, k ≤ ns → D k ≤ 4 ∧ ∀ e, e < D k → S k e < k ∧ T 0 (S k e) = 4 ∧ D (S k e + 1) = e + 1 ∧ ∀ e', e' ≤ e → S (S k e + 1) e' = S k e' := by
  obtain ⟨D0, Dn, n24, st, _, _⟩ := h
  intro k
  induction k with
  | zero => intro _; rw [D0]; exact ⟨by decide, fun e he => absurd he (Nat.not_lt_zero _)⟩
  | succ k ih =>
    intro hk
    have i := ih (by omega)
    have s := st k (by omega)
    by_cases c : T 0 k = 4
    · have z := s.1 c
      refine ⟨by omega, fun e he => ?_⟩
      by_cases ee : e = D k
      · subst ee
        rw [z.2.2.2]
        exact ⟨by omega, c, z.2.1, fun e' _ => rfl⟩
      · have y := i.2 e (by omega)
        rw [z.2.2.1 e (by omega)]
        exact ⟨by omega, y.2.1, y.2.2.1, fun e' he' => by rw [y.2.2.2 e' he', z.2.2.1 e' (by omega)]⟩
    · have z := s.2 c
      refine ⟨by omega, fun e he => ?_⟩
      have y := i.2 e (by omega)
      rw [z.2.1 e he]
      exact ⟨by omega, y.2.1, y.2.2.1, fun e' he' => by rw [y.2.2.2 e' he', z.2.1 e' (by omega)]⟩
/-- loops that are run -/
def LP9 (D : Nat → Nat) (S : Nat → Nat → Nat) (ns k d : Nat) (OP TU : Nat → Int) : Prop := k ≤ ns ∧ d = D k ∧ ∀ e, e < d → OP e = (S k e : Int) ∧ 1 ≤ TU e ∧ TU e ≤ 9
theorem cl9_i (h : WF9 D S T ns SD) {k : Nat} (hk : k < ns) (c4 : T 0 k ≠ 4) {OP : Nat → Int} : ∀ d TU, D (k + 1) ≤ d → d ≤ D k → (∀ e, e < d → OP e = (S k e : Int) ∧ 1 ≤ TU e ∧ TU e ≤ 9) → LP9 D S ns (cl9 T d (k + 1) OP TU).1 (cl9 T d (k + 1) OP TU).2.1 OP (cl9 T d (k + 1) OP TU).2.2 := by
  have z := (h.2.2.2.1 k hk).2 c4
  have E := wfE h (ns - (k + 1)) (k + 1) (by omega)
  have I := (wfI h k (by omega)).2
  intro d
  induction d with
  | zero =>
    intro TU a _ _
    exact ⟨by show k + 1 ≤ ns; omega, by show 0 = D (k + 1); omega, fun e he => absurd he (Nat.not_lt_zero _)⟩
  | succ d ih =>
    intro TU a b c
    have cd := c d (by omega)
    have ed : (OP d).toNat = S k d := by rw [cd.1, Int.toNat_natCast]
    have Id := I d (by omega)
    by_cases q : ((k + 1 : Nat) : Int) = T 4 (OP d).toNat
    · by_cases q2 : 1 < TU d
      · rw [cl9_b q q2]
        refine ⟨by show (OP d).toNat + 1 ≤ ns; omega, by show d + 1 = D ((OP d).toNat + 1); rw [ed]; omega, fun e he => ?_⟩
        change e < d + 1 at he
        show OP e = (S ((OP d).toNat + 1) e : Int) ∧ 1 ≤ ut9 TU d (TU d - 1) e ∧ ut9 TU d (TU d - 1) e ≤ 9
        rw [ed, Id.2.2.2 e (by omega)]
        refine ⟨(c e he).1, ?_⟩
        by_cases ee : e = d
        · subst ee; rw [ut9_s]; omega
        · rw [ut9_o ee]; exact (c e he).2
      · rw [cl9_c q q2]
        have dn : D (k + 1) ≠ d + 1 := fun y => by
          have w := E d (by omega)
          rw [z.2.1 d (by omega)] at w
          rw [ed] at q
          omega
        refine ih _ (by omega) (by omega) (fun e he => ?_)
        rw [ut9_o (by omega)]
        exact c e (by omega)
    · rw [cl9_o q]
      have dn : d + 1 = D (k + 1) := by
        by_cases y : D (k + 1) ≤ d
        · exfalso
          have w := z.2.2 d y (by omega)
          rw [ed] at q
          exact q w.symm
        · omega
      refine ⟨by show k + 1 ≤ ns; omega, dn, fun e he => ?_⟩
      change e < d + 1 at he
      show OP e = (S (k + 1) e : Int) ∧ 1 ≤ TU e ∧ TU e ≤ 9
      rw [z.2.1 e (by omega)]
      exact c e he
theorem LP9.nx (h : WF9 D S T ns SD) {k d : Nat} {OP TU : Nat → Int} (p : LP9 D S ns k d OP TU) (hk : k < ns) (c4 : T 0 k ≠ 4) : LP9 D S ns (cl9 T d (k + 1) OP TU).1 (cl9 T d (k + 1) OP TU).2.1 OP (cl9 T d (k + 1) OP TU).2.2 := by
  obtain ⟨a, b, c⟩ := p
  have z := (h.2.2.2.1 k hk).2 c4
  exact cl9_i h hk c4 d TU (by omega) (by omega) c
theorem LP9.t (h : WF9 D S T ns SD) {k d : Nat} {OP TU : Nat → Int} (p : LP9 D S ns k d OP TU) (hk : k < ns) (c4 : T 0 k = 4) : d < 4 ∧ LP9 D S ns (k + 1) (d + 1) (ut9 OP d (k : Int)) (ut9 TU d (T 1 k)) ∧ cl9 T (d + 1) (k + 1) (ut9 OP d (k : Int)) (ut9 TU d (T 1 k)) = (k + 1, d + 1, ut9 TU d (T 1 k)) := by
  obtain ⟨a, b, c⟩ := p
  have z := (h.2.2.2.1 k hk).1 c4
  have r := h.2.2.2.2.1 k hk
  have r4 := r.2.2.1 c4
  have r1 := r.2.1.1
  have E := wfE h (ns - (k + 1)) (k + 1) (by omega) d (by omega)
  refine ⟨by omega, ⟨by omega, by omega, fun e he => ?_⟩, ?_⟩
  · by_cases ee : e = d
    · subst ee
      rw [ut9_s, ut9_s, b, z.2.2.2]
      exact ⟨rfl, r1, r4⟩
    · rw [ut9_o ee, ut9_o ee, z.2.2.1 e (by omega)]
      exact c e (by omega)
  · refine cl9_o (fun q => ?_)
    rw [ut9_s, Int.toNat_natCast] at q
    rw [b, z.2.2.2] at E
    omega
/-- aligned: nothing is to be closed -/
theorem LP9.al (h : WF9 D S T ns SD) {k d : Nat} {OP TU : Nat → Int} (p : LP9 D S ns k d OP TU) {e : Nat} (he : e < d) : (k : Int) < T 4 (OP e).toNat ∧ T 4 (OP e).toNat ≤ (ns : Int) ∧ 0 ≤ OP e ∧ OP e < (ns : Int) ∧ T 0 (OP e).toNat = 4 ∧ k < ns := by
  obtain ⟨a, b, c⟩ := p
  have E := wfE h (ns - k) k (by omega) e (by omega)
  have I := (wfI h k a).2 e (by omega)
  have ce := (c e he).1
  have ed : (OP e).toNat = S k e := by rw [ce, Int.toNat_natCast]
  rw [ed]
  exact ⟨E.1, E.2, by omega, by omega, I.2.1, by omega⟩
theorem LP9.d4 (h : WF9 D S T ns SD) {k d : Nat} {OP TU : Nat → Int} (p : LP9 D S ns k d OP TU) : d ≤ 4 := by
  have := (wfI h k p.1).1
  have := p.2.1
  omega
theorem LP9.e0 (h : WF9 D S T ns SD) {k d : Nat} {OP TU : Nat → Int} (p : LP9 D S ns k d OP TU) (hk : ns ≤ k) : d = 0 := by
  have a := p.1
  have b := p.2.1
  rw [show k = ns by omega, h.2.1] at b
  exact b
end WF
theorem gA_i {T : jH} {SD : List Int} {k n ns : Nat} {g : jH} {R : Nat → Int} (r : RNG T k SD.length) (c4 : T 0 k ≠ 4) (sb : ∀ v, v ∈ SD → 0 ≤ v ∧ v ≤ 255) (w0 : wh9 T (R 5) k n = 0) (hg : OGs g R n) : ∀ i : Nat, (i : Int) ≤ T 1 k → OGs (gA T SD k g n i) R (n + i) := by
  have wc := wh9_c (T := T) (R5 := R 5) (k := k) (n := n)
  obtain ⟨r0, r1, r4, ra, rb9, rc, rd, ry⟩ := r
  have wz : (T 0 k = 0 → T 2 k + T 1 k ≤ R 5) ∧ (T 0 k = 3 → T 2 k ≤ (n : Int)) ∧ (n : Int) + T 1 k ≤ 64 := by
    rcases wc with q | q | q
    · rw [q] at w0; exact absurd w0 (by decide)
    · rw [q] at w0; exact absurd w0 (by decide)
    · exact q.2
  intro i
  induction i with
  | zero => intro _; exact hg
  | succ i ih =>
    intro hi q hq
    have hi2 := ih (by omega)
    rw [gA]
    by_cases e : q = n + i
    · subst e
      rw [hs_o (by decide), hs_s, hs_s]
      have kc : T 0 k = 0 ∨ T 0 k = 1 ∨ T 0 k = 2 ∨ T 0 k = 3 := by omega
      rcases kc with c | c | c | c
      · rw [pl9, vl9, if_pos c, if_pos c]
        have a := ra c
        have b := wz.1 c
        exact ⟨Or.inr ⟨by omega, by omega⟩, ry⟩
      · have n0 : ¬ T 0 k = 0 := by omega
        rw [pl9, vl9, if_neg n0, if_neg n0, if_pos c, if_pos c]
        exact ⟨Or.inl rfl, rb9 c⟩
      · have n0 : ¬ T 0 k = 0 := by omega
        have n1 : ¬ T 0 k = 1 := by omega
        rw [pl9, vl9, if_neg n0, if_neg n0, if_neg n1, if_neg n1, if_pos c, if_pos c]
        have a := rc c
        have l1 : (T 2 k + (i : Int)).toNat < SD.length := by omega
        exact ⟨Or.inl rfl, sb _ (gd_mem l1)⟩
      · have n0 : ¬ T 0 k = 0 := by omega
        have n1 : ¬ T 0 k = 1 := by omega
        have n2 : ¬ T 0 k = 2 := by omega
        rw [pl9, vl9, if_neg n0, if_neg n0, if_neg n1, if_neg n1, if_neg n2, if_neg n2]
        have a := rd c
        have b := wz.2.1 c
        exact hi2 _ (by omega)
    · rw [hs_k2 e, hs_k2 e, hs_k2 e, hs_k2 e]
      exact hi2 q (by omega)
def RI9 (D : Nat → Nat) (S : Nat → Nat → Nat) (ns : Nat) (R : Nat → Int) (s : rST) : Prop := LP9 D S ns s.1.1.1 s.1.1.2 s.1.2.1 s.1.2.2 ∧ s.2.1.2 ≤ 64 ∧ OGs s.2.1.1 R s.2.1.2 ∧ -5 ≤ s.2.2 ∧ s.2.2 ≤ 0
section WG
variable {D : Nat → Nat} {S : Nat → Nat → Nat} {T : jH} {ns : Nat} {SD : List Int} {R : Nat → Int}
theorem rz_i (h : WF9 D S T ns SD) {s : rST} (p : RI9 D S ns R s) : RI9 D S ns R (rz T SD (R 5) ns s) ∧ ((s.2.2 ≠ 0 ∨ ns ≤ s.1.1.1) ∨ (rz T SD (R 5) ns s).2.2 ≠ 0 ∨ 25 * (64 - (rz T SD (R 5) ns s).2.1.2) + (24 - (rz T SD (R 5) ns s).1.1.1) < 25 * (64 - s.2.1.2) + (24 - s.1.1.1)) := by
  obtain ⟨⟨⟨k, d⟩, OP, TU⟩, ⟨g, n⟩, w9⟩ := s
  have p0 := p
  obtain ⟨lp, n64, og, w1, w2⟩ := p
  change LP9 D S ns k d OP TU at lp
  change n ≤ 64 at n64
  change OGs g R n at og
  change -5 ≤ w9 at w1
  change w9 ≤ 0 at w2
  have n24 := h.2.2.1
  by_cases c : w9 ≠ 0 ∨ ns ≤ k
  · rw [rz_s c]; exact ⟨p0, Or.inl c⟩
  · have e : w9 = 0 := by omega
    subst e
    have kn : k < ns := by omega
    have r := h.2.2.2.2.1 k kn
    by_cases c4 : T 0 k = 4
    · rw [rz_4 kn c4]
      have t := lp.t h kn c4
      exact ⟨⟨t.2.1, n64, og, by show (-5 : Int) ≤ 0; decide, by show (0 : Int) ≤ 0; decide⟩, Or.inr (Or.inr (by show 25 * (64 - n) + (24 - (k + 1)) < 25 * (64 - n) + (24 - k); omega))⟩
    · have wc := wh9_c (T := T) (R5 := R 5) (k := k) (n := n)
      by_cases cw : wh9 T (R 5) k n = 0
      · rw [rz_g kn c4 cw]
        have wz : (n : Int) + T 1 k ≤ 64 := by
          rcases wc with q | q | q
          · omega
          · omega
          · exact q.2.2.2
        have r1 := r.2.1.1
        have ga := gA_i (ns := ns) (g := g) r c4 h.2.2.2.2.2 cw og (T 1 k).toNat (by omega)
        refine ⟨⟨lp.nx h kn c4, by show n + (T 1 k).toNat ≤ 64; omega, ga, by show (-5 : Int) ≤ 0; decide, by show (0 : Int) ≤ 0; decide⟩, Or.inr (Or.inr ?_)⟩
        show 25 * (64 - (n + (T 1 k).toNat)) + (24 - (cl9 T d (k + 1) OP TU).1) < 25 * (64 - n) + (24 - k)
        omega
      · rw [rz_w kn c4 cw]
        exact ⟨⟨lp, n64, og, by show -5 ≤ wh9 T (R 5) k n; omega, by show wh9 T (R 5) k n ≤ 0; omega⟩, Or.inr (Or.inl cw)⟩
theorem rit_i (h : WF9 D S T ns SD) : ∀ m (s : rST), RI9 D S ns R s → 25 * (64 - s.2.1.2) + (24 - s.1.1.1) < m → RI9 D S ns R (rit T SD (R 5) ns m s) ∧ ((rit T SD (R 5) ns m s).2.2 ≠ 0 ∨ ns ≤ (rit T SD (R 5) ns m s).1.1.1) := by
  intro m
  induction m with
  | zero => intro s _ q; omega
  | succ m ih =>
    intro s p q
    have z := rz_i (SD := SD) h p
    rw [rit]
    rcases z.2 with y | y | y
    · obtain ⟨⟨⟨k, d⟩, OP, TU⟩, ⟨g, n⟩, w9⟩ := s
      rw [rz_s y, rit_s y]
      exact ⟨p, y⟩
    · have z1 := z.1
      generalize rz T SD (R 5) ns s = s' at y z1 ⊢
      obtain ⟨⟨⟨k, d⟩, OP, TU⟩, ⟨g, n⟩, w9⟩ := s'
      rw [rit_s (Or.inl y)]
      exact ⟨z1, Or.inl y⟩
    · exact ih _ z.1 (by omega)
theorem rX_i (h : WF9 D S T ns SD) : RI9 D S ns R (rX T SD (R 5) ns) ∧ ((rX T SD (R 5) ns).2.2 ≠ 0 ∨ ns ≤ (rX T SD (R 5) ns).1.1.1) := by
  unfold rX
  refine rit_i h 10000 _ ⟨⟨Nat.zero_le _, h.1.symm, fun e he => absurd he (Nat.not_lt_zero _)⟩, Nat.zero_le _, fun i hi => absurd hi (Nat.not_lt_zero _), by show (-5 : Int) ≤ 0; decide, by show (0 : Int) ≤ 0; decide⟩ ?_
  show 25 * (64 - 0) + (24 - 0) < 10000
  decide
end WG
