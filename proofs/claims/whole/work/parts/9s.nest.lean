/-! recipes: loops lie well in each other; the numbers of steps -/
def RNG (T : jH) (i L : Nat) : Prop := (0 ≤ T 0 i ∧ T 0 i ≤ 4) ∧ (1 ≤ T 1 i ∧ T 1 i ≤ 400) ∧ (T 0 i = 4 → T 1 i ≤ 9) ∧ (T 0 i = 0 → 0 ≤ T 2 i ∧ T 2 i ≤ 63) ∧ (T 0 i = 1 → 0 ≤ T 2 i ∧ T 2 i ≤ 255) ∧ (T 0 i = 2 → 0 ≤ T 2 i ∧ T 2 i + T 1 i ≤ (L : Int)) ∧ (T 0 i = 3 → 1 ≤ T 2 i ∧ T 2 i ≤ 64) ∧ (0 ≤ T 3 i ∧ T 3 i ≤ 255)
theorem nb_r {B : Nat → Int} {N f : Nat} {lo hi : Int} (h : nb B N f lo hi = true) : lo ≤ nv B N f ∧ nv B N f ≤ hi := (of_decide_eq_true h).2
theorem stp_r {B : Nat → Int} {N f d : Nat} (hf : f ≤ N) (n400 : N ≤ 400) (SD : List Int) (T : jH) (ns : Nat) (g : (stp B N f d).1 = false) : RNG (tb9 B N T ns f SD) ns (SD ++ vS9 B N f).length ∧ (∀ v, v ∈ vS9 B N f → 0 ≤ v ∧ v ≤ 255) := by
  have t := tb9_n (B := B) (N := N) (T := T) (ns := ns) (f := f) (SD := SD)
  have kr := kd9_r (B := B) (N := N) f
  have n1 := nx_b (B := B) hf
  unfold RNG
  rw [t.1, t.2.1, t.2.2.1, t.2.2.2, List.length_append]
  have kc : kd9 B N f = 0 ∨ kd9 B N f = 1 ∨ kd9 B N f = 2 ∨ kd9 B N f = 3 ∨ kd9 B N f = 4 ∨ kd9 B N f = -1 := by omega
  rcases kc with k | k | k | k | k | k
  · have y0 : 0 ≤ vY9 B N f ∧ vY9 B N f ≤ 255 := by
      rw [vY9]
      by_cases c : kd9 B N f = 0 ∧ wd B N (nx B N (nx B N (nx B N (nx B N f)))) 2 = true
      · rw [if_pos c]
        rw [stp_0 k] at g
        have sg9 := sT_g g
        rw [sT, sg9.1, if_pos ⟨rfl, c.2⟩] at g
        exact nb_r (mvp_g g).2.1
      · rw [if_neg c]; omega
    rw [stp_0 k] at g
    have sg9 := sT_g g
    have a1 := nb_r sg9.2.1
    have a2 := nb_r sg9.2.2
    have e1 : vM9 B N f = nv B N (nx B N f) := by rw [vM9, if_neg (by rw [k]; decide)]
    have e2 : vW9 B N f SD.length = nv B N (nx B N (nx B N (nx B N f))) := by rw [vW9, if_neg (by rw [k]; decide)]
    have e3 : vS9 B N f = [] := by rw [vS9, if_neg (by rw [k]; decide)]
    rw [e1, e2, e3, k]
    exact ⟨⟨by decide, ⟨by omega, by omega⟩, fun q => absurd q (by decide), fun _ => a2, fun q => absurd q (by decide), fun q => absurd q (by decide), fun q => absurd q (by decide), y0⟩, fun v hv => absurd hv (List.not_mem_nil)⟩
  · rw [stp_1 k] at g
    have sg9 := sF_g g
    have a1 := nb_r sg9.1
    have a2 := nb_r sg9.2.2
    have y0 : vY9 B N f = 0 := by rw [vY9, if_neg (fun q => by rw [k] at q; exact absurd q.1 (by decide))]
    have e1 : vM9 B N f = nv B N (nx B N f) := by rw [vM9, if_neg (by rw [k]; decide)]
    have e2 : vW9 B N f SD.length = nv B N (nx B N (nx B N (nx B N f))) := by rw [vW9, if_neg (by rw [k]; decide)]
    have e3 : vS9 B N f = [] := by rw [vS9, if_neg (by rw [k]; decide)]
    rw [e1, e2, e3, y0, k]
    exact ⟨⟨by decide, ⟨by omega, by omega⟩, fun q => absurd q (by decide), fun q => absurd q (by decide), fun _ => a2, fun q => absurd q (by decide), fun q => absurd q (by decide), by decide⟩, fun v hv => absurd hv (List.not_mem_nil)⟩
  · rw [stp_2 k] at g
    have b := sS9_b (B := B) (N := N) (N - nx B N f + 1) (nx B N f) n1.2.1 (by omega)
    have b4 := b.2.2.2 g
    have y0 : vY9 B N f = 0 := by rw [vY9, if_neg (fun q => by rw [k] at q; exact absurd q.1 (by decide))]
    have e1 : vM9 B N f = ((sSy B N f).2.length : Int) := by rw [vM9, if_pos k]
    have e2 : vW9 B N f SD.length = (SD.length : Int) := by rw [vW9, if_pos k]
    have e3 : vS9 B N f = (sSy B N f).2 := by rw [vS9, if_pos k]
    have l1 : 1 ≤ (sSy B N f).2.length := b4.1
    have l2 : (sSy B N f).2.length + nx B N f ≤ N := b4.2
    rw [e1, e2, e3, y0, k]
    exact ⟨⟨by decide, ⟨by omega, by omega⟩, fun q => absurd q (by decide), fun q => absurd q (by decide), fun q => absurd q (by decide), fun _ => ⟨by omega, by omega⟩, fun q => absurd q (by decide), by decide⟩, b.2.2.1⟩
  · rw [stp_3 k] at g
    have sg9 := sF_g g
    have a1 := nb_r sg9.1
    have a2 := nb_r sg9.2.2
    have y0 : vY9 B N f = 0 := by rw [vY9, if_neg (fun q => by rw [k] at q; exact absurd q.1 (by decide))]
    have e1 : vM9 B N f = nv B N (nx B N f) := by rw [vM9, if_neg (by rw [k]; decide)]
    have e2 : vW9 B N f SD.length = nv B N (nx B N (nx B N (nx B N f))) := by rw [vW9, if_neg (by rw [k]; decide)]
    have e3 : vS9 B N f = [] := by rw [vS9, if_neg (by rw [k]; decide)]
    rw [e1, e2, e3, y0, k]
    exact ⟨⟨by decide, ⟨by omega, by omega⟩, fun q => absurd q (by decide), fun q => absurd q (by decide), fun q => absurd q (by decide), fun q => absurd q (by decide), fun _ => a2, by decide⟩, fun v hv => absurd hv (List.not_mem_nil)⟩
  · rw [stp_4 k] at g
    have z := mvp_g (mvp_g g).1
    have a1 : 1 ≤ nv B N (nx B N f) ∧ nv B N (nx B N f) ≤ 9 := nb_r z.2.1
    have y0 : vY9 B N f = 0 := by rw [vY9, if_neg (fun q => by rw [k] at q; exact absurd q.1 (by decide))]
    have e1 : vM9 B N f = nv B N (nx B N f) := by rw [vM9, if_neg (by rw [k]; decide)]
    have e3 : vS9 B N f = [] := by rw [vS9, if_neg (by rw [k]; decide)]
    rw [e1, e3, y0, k]
    exact ⟨⟨by decide, ⟨by omega, by omega⟩, fun _ => a1.2, fun q => absurd q (by decide), fun q => absurd q (by decide), fun q => absurd q (by decide), fun q => absurd q (by decide), by decide⟩, fun v hv => absurd hv (List.not_mem_nil)⟩
  · exfalso
    rw [stp, if_neg (by omega), if_neg (by omega), if_neg (by omega), if_neg (by omega), if_neg (by omega)] at g
    exact absurd (show true = false from g) (by decide)
/-- one step of the tables, seen from outside: D how deep, S which loops are open -/
def STP9 (D : Nat → Nat) (S : Nat → Nat → Nat) (T : jH) (k : Nat) : Prop := (T 0 k = 4 → D k < 4 ∧ D (k + 1) = D k + 1 ∧ (∀ e, e < D k → S (k + 1) e = S k e) ∧ S (k + 1) (D k) = k) ∧ (T 0 k ≠ 4 → D (k + 1) ≤ D k ∧ (∀ e, e < D (k + 1) → S (k + 1) e = S k e) ∧ ∀ e, D (k + 1) ≤ e → e < D k → T 4 (S k e) = ((k + 1 : Nat) : Int))
def NS9 (N : Nat) (s : pS) : Prop := s.2.1.1 ≤ N ∧ s.2.1.2.1 ≤ 24 ∧ s.2.1.2.2 ≤ 4 ∧ (s.1.2 = false → s.2.1.2.2 = 0) ∧ (∀ i, i < s.2.1.2.1 → RNG s.2.2.1 i s.2.2.2.length) ∧ (∀ v, v ∈ s.2.2.2 → 0 ≤ v ∧ v ≤ 255) ∧ ∃ (D : Nat → Nat) (S : Nat → Nat → Nat), D 0 = 0 ∧ D s.2.1.2.1 = s.2.1.2.2 ∧ (∀ e, e < s.2.1.2.2 → s.2.2.1 5 e = (S s.2.1.2.1 e : Int) ∧ S s.2.1.2.1 e < s.2.1.2.1) ∧ (∀ e e', e < e' → e' < s.2.1.2.2 → S s.2.1.2.1 e < S s.2.1.2.1 e') ∧ (∀ k, k < s.2.1.2.1 → STP9 D S s.2.2.1 k) ∧ ∀ k, k < s.2.1.2.1 → s.2.2.1 0 k ≠ 4 → ∀ e, D (k + 1) ≤ e → e < D k → ∀ e', e' < s.2.1.2.2 → S k e ≠ S s.2.1.2.1 e'
theorem cb9_d {B : Nat → Int} {N ns : Nat} : ∀ d f T, (cb9 B N ns d f T).2.1 ≤ d := by
  intro d
  induction d with
  | zero => intro f T; exact Nat.le_refl _
  | succ d ih =>
    intro f T
    by_cases c : sg B N f 41 = true
    · rw [cb9_t c]; exact Nat.le_trans (ih _ _) (Nat.le_succ _)
    · rw [cb9_f (Or.inr (Bool.eq_false_iff.mpr c))]; exact Nat.le_refl _
theorem cb9_n {B : Nat → Int} {N ns : Nat} {S : Nat → Nat} : ∀ d f T, (∀ e, e < d → T 5 e = (S e : Int)) → (∀ e e', e < e' → e' < d → S e < S e') → (∀ e, (cb9 B N ns d f T).2.1 ≤ e → e < d → (cb9 B N ns d f T).2.2 4 (S e) = (ns : Int)) ∧ ∀ i, (∀ e, (cb9 B N ns d f T).2.1 ≤ e → e < d → i ≠ S e) → (cb9 B N ns d f T).2.2 4 i = T 4 i := by
  intro d
  induction d with
  | zero => intro f T _ _; exact ⟨fun e _ h => absurd h (Nat.not_lt_zero _), fun i _ => rfl⟩
  | succ d ih =>
    intro f T h5 hi
    by_cases c : sg B N f 41 = true
    · rw [cb9_t c]
      have e5 : (T 5 d).toNat = S d := by rw [h5 d (by omega), Int.toNat_natCast]
      rw [e5]
      have r := ih (nx B N f) (hs T 4 (S d) (ns : Int)) (fun e he => by rw [hs_o (by decide)]; exact h5 e (by omega)) (fun e e' a b => hi e e' a (by omega))
      refine ⟨fun e a b => ?_, fun i a => ?_⟩
      · by_cases ed : e = d
        · subst ed
          rw [r.2 (S e) (fun e' _ q => by have := hi e' e q (by omega); omega), hs_s]
        · exact r.1 e a (by omega)
      · have dd : (cb9 B N ns d (nx B N f) (hs T 4 (S d) (ns : Int))).2.1 ≤ d := by
          clear r ih
          generalize nx B N f = g
          generalize hs T 4 (S d) (ns : Int) = U
          exact cb9_d d g U
        rw [r.2 i (fun e p q => a e p (by omega)), hs_k (a d dd (by omega))]
    · rw [cb9_f (Or.inr (Bool.eq_false_iff.mpr c))]
      exact ⟨fun e a b => absurd b (by have : d + 1 ≤ e := a; omega), fun i _ => rfl⟩

theorem RNG.of {T U : jH} {i L L' : Nat} (h : RNG T i L) (e : ∀ r, r < 4 → U r i = T r i) (hl : L ≤ L') : RNG U i L' := by
  unfold RNG at h ⊢
  rw [e 0 (by decide), e 1 (by decide), e 2 (by decide), e 3 (by decide)]
  obtain ⟨a, b, c, d, f, g, p, q⟩ := h
  exact ⟨a, b, c, d, f, fun z => ⟨(g z).1, by have := (g z).2; omega⟩, p, q⟩
/-- what stands below ns does not change -/
theorem STP9.of {D D' : Nat → Nat} {S S' : Nat → Nat → Nat} {T U : jH} {k ns : Nat} (hk : k < ns) (h : STP9 D S T k) (eD : ∀ q, q ≤ ns → D' q = D q) (eS : ∀ q, q ≤ ns → S' q = S q) (e0 : U 0 k = T 0 k) (e4 : T 0 k ≠ 4 → ∀ e, D (k + 1) ≤ e → e < D k → U 4 (S k e) = T 4 (S k e)) : STP9 D' S' U k := by
  unfold STP9 at h ⊢
  rw [e0, eD k (by omega), eD (k + 1) (by omega), eS k (by omega), eS (k + 1) (by omega)]
  refine ⟨h.1, fun q => ?_⟩
  have z := h.2 q
  exact ⟨z.1, z.2.1, fun e a b => by rw [e4 q e a b]; exact z.2.2 e a b⟩
theorem SK9 {D : Nat → Nat} {S : Nat → Nat → Nat} {T : jH} {ns : Nat} (h : ∀ k, k < ns → STP9 D S T k) (D0 : D 0 = 0) : ∀ k, k ≤ ns → ∀ e, e < D k → S k e < k := by
  intro k
  induction k with
  | zero => intro _ e he; rw [D0] at he; omega
  | succ k ih =>
    intro hk e he
    have s := h k (by omega)
    by_cases c : T 0 k = 4
    · have z := s.1 c
      by_cases ee : e = D k
      · subst ee; rw [z.2.2.2]; omega
      · rw [z.2.2.1 e (by omega)]
        have := ih (by omega) e (by omega)
        omega
    · have z := s.2 c
      rw [z.2.1 e he]
      have := ih (by omega) e (by omega)
      omega
theorem pz_n {B : Nat → Int} {N : Nat} (n400 : N ≤ 400) {b mo : Bool} {f ns d : Nat} {T : jH} {SD : List Int} (hb : b = false) (h : NS9 N ((b, mo), (f, ns, d), T, SD)) (g : (pz B N ((b, mo), (f, ns, d), T, SD)).1.1 = false) : NS9 N (pz B N ((b, mo), (f, ns, d), T, SD)) := by
  subst hb
  cases mo with
  | false => rw [pz_s (Or.inr rfl)]; exact h
  | true =>
    have hs9 := h
    obtain ⟨fN, n24, d4, _, rng, sdb, D, S, D0, Dn, St, inc, stp9, ncl⟩ := h
    change f ≤ N at fN
    change ns ≤ 24 at n24
    change d ≤ 4 at d4
    change ∀ i, i < ns → RNG T i SD.length at rng
    change ∀ v, v ∈ SD → 0 ≤ v ∧ v ≤ 255 at sdb
    change D ns = d at Dn
    change ∀ e, e < d → T 5 e = (S ns e : Int) ∧ S ns e < ns at St
    change ∀ e e', e < e' → e' < d → S ns e < S ns e' at inc
    change ∀ k, k < ns → STP9 D S T k at stp9
    change ∀ k, k < ns → T 0 k ≠ 4 → ∀ e, D (k + 1) ≤ e → e < D k → ∀ e', e' < d → S k e ≠ S ns e' at ncl
    cases eb : (stq B N f d ns).1 with
    | true => rw [pz_b (Prod.ext eb rfl)] at g; exact absurd (show true = false from g) (by decide)
    | false =>
      have c24 : ns < 24 := by
        by_cases c : ns < 24
        · exact c
        · exfalso; rw [stq, if_neg c] at eb; exact absurd (show true = false from eb) (by decide)
      have sq : stq B N f d ns = stp B N f d := by rw [stq, if_pos c24]
      have gd : (stp B N f d).1 = false := by rw [← sq]; exact eb
      have sr := stp_r (B := B) (d := d) fN n400 SD T ns gd
      have sN : (stq B N f d ns).2 ≤ N := by rw [sq]; exact stp_N fN
      have sqg : stq B N f d ns = (false, (stq B N f d ns).2) := Prod.ext eb rfl
      have rngs : ∀ U : jH, (∀ r, r < 4 → U r = tb9 B N T ns f SD r) → ∀ i, i < ns + 1 → RNG U i (SD ++ vS9 B N f).length := by
        intro U hU i hi
        by_cases e : i = ns
        · subst e; exact sr.1.of (fun r hr => by rw [hU r hr]) (Nat.le_refl _)
        · exact (rng i (by omega)).of (fun r hr => by rw [hU r hr, tb9_o (Or.inl e)]) (by rw [List.length_append]; omega)
      have sdbs : ∀ v, v ∈ SD ++ vS9 B N f → 0 ≤ v ∧ v ≤ 255 := fun v hv => by
        rcases List.mem_append.mp hv with q | q
        · exact sdb v q
        · exact sr.2 v q
      by_cases k4 : kd9 B N f = 4
      · rw [pz_4 sqg k4]
        have d3 : d < 4 := by
          have sp := stp_4 (B := B) (N := N) (f := f) (d := d) k4
          rw [sp] at gd
          have z := (mvp_g gd).2.1
          by_cases c : d < 4
          · exact c
          · exfalso; (try dsimp only at z); rw [decide_eq_false c, Bool.and_false] at z; exact absurd z (by decide)
        have vs0 : vS9 B N f = [] := by rw [vS9, if_neg (by rw [k4]; decide)]
        rw [vs0, List.append_nil] at rngs
        have tn : tb9 B N T ns f SD 0 ns = 4 := by rw [tb9_n.1]; exact k4
        refine ⟨sN, by show ns + 1 ≤ 24; omega, by show d + 1 ≤ 4; omega, fun q => absurd (show true = false from q) (by decide), rngs _ (fun r hr => hs_O (by omega)), sdb, fun q => if q = ns + 1 then d + 1 else D q, fun q e => if q = ns + 1 then (if e = d then ns else S ns e) else S q e, ?_, ?_, ?_, ?_, ?_, ?_⟩
        · show (if (0 : Nat) = ns + 1 then d + 1 else D 0) = 0
          rw [if_neg (by omega)]; exact D0
        · show (if ns + 1 = ns + 1 then d + 1 else D (ns + 1)) = d + 1
          rw [if_pos rfl]
        · intro e he
          change e < d + 1 at he
          show hs (tb9 B N T ns f SD) 5 d (ns : Int) 5 e = ((if ns + 1 = ns + 1 then (if e = d then ns else S ns e) else S (ns + 1) e : Nat) : Int) ∧ (if ns + 1 = ns + 1 then (if e = d then ns else S ns e) else S (ns + 1) e) < ns + 1
          rw [if_pos rfl]
          by_cases ee : e = d
          · subst ee; rw [hs_s, if_pos rfl]; exact ⟨rfl, by omega⟩
          · rw [hs_k ee, tb9_o (Or.inr (by decide)), if_neg ee]
            have := St e (by omega)
            exact ⟨this.1, by omega⟩
        · intro e e' a b
          change e' < d + 1 at b
          show (if ns + 1 = ns + 1 then (if e = d then ns else S ns e) else S (ns + 1) e) < (if ns + 1 = ns + 1 then (if e' = d then ns else S ns e') else S (ns + 1) e')
          rw [if_pos rfl, if_pos rfl, if_neg (show e ≠ d by omega)]
          by_cases ee : e' = d
          · rw [if_pos ee]; exact (St e (by omega)).2
          · rw [if_neg ee]; exact inc e e' a (by omega)
        · intro k hk
          change k < ns + 1 at hk
          show STP9 _ _ (hs (tb9 B N T ns f SD) 5 d (ns : Int)) k
          by_cases e : k = ns
          · subst e
            refine ⟨fun _ => ?_, fun q => absurd (by rw [hs_o (by decide)]; exact tn) q⟩
            show (if k = k + 1 then d + 1 else D k) < 4 ∧ (if k + 1 = k + 1 then d + 1 else D (k + 1)) = (if k = k + 1 then d + 1 else D k) + 1 ∧ (∀ e, e < (if k = k + 1 then d + 1 else D k) → (if k + 1 = k + 1 then (if e = d then k else S k e) else S (k + 1) e) = (if k = k + 1 then (if e = d then k else S k e) else S k e)) ∧ (if k + 1 = k + 1 then (if (if k = k + 1 then d + 1 else D k) = d then k else S k (if k = k + 1 then d + 1 else D k)) else S (k + 1) (if k = k + 1 then d + 1 else D k)) = k
            rw [if_neg (show k ≠ k + 1 by omega), if_pos rfl, Dn]
            refine ⟨d3, rfl, fun e he => ?_, ?_⟩
            · rw [if_pos rfl, if_neg (show e ≠ d by omega), if_neg (by omega)]
            · rw [if_pos rfl, if_pos rfl]
          · refine (stp9 k (by omega)).of (ns := ns) (by omega) (fun q hq => if_neg (by omega)) (fun q hq => ?_) ?_ (fun _ e' _ _ => ?_)
            · funext e'; exact if_neg (by omega)
            · rw [hs_o (by decide), tb9_o (Or.inl e)]
            · rw [hs_o (by decide), tb9_o (Or.inr (by decide))]
        · intro k hk q e a b e' he'
          change k < ns + 1 at hk
          change e' < d + 1 at he'
          have kn : k ≠ ns := fun z => by subst z; exact q (by show hs (tb9 B N T k f SD) 5 d (k : Int) 0 k = 4; rw [hs_o (by decide)]; exact tn)
          have q2 : T 0 k ≠ 4 := fun z => q (by show hs (tb9 B N T ns f SD) 5 d (ns : Int) 0 k = 4; rw [hs_o (by decide), tb9_o (Or.inl kn)]; exact z)
          change (if k + 1 = ns + 1 then d + 1 else D (k + 1)) ≤ e at a
          change e < (if k = ns + 1 then d + 1 else D k) at b
          rw [if_neg (by omega)] at a b
          show (if k = ns + 1 then (if e = d then ns else S ns e) else S k e) ≠ (if ns + 1 = ns + 1 then (if e' = d then ns else S ns e') else S (ns + 1) e')
          rw [if_neg (by omega), if_pos rfl]
          by_cases ee : e' = d
          · rw [if_pos ee]
            have := SK9 (fun p hp => stp9 p (by omega)) D0 k (by omega) e b
            omega
          · rw [if_neg ee]; exact ncl k (by omega) q2 e a b e' (by omega)
      · rw [pz_g sqg k4] at g ⊢
        generalize eC : cb9 B N (ns + 1) d (stq B N f d ns).2 (tb9 B N T ns f SD) = C at g ⊢
        have cbb := cb9_b (B := B) (ns := ns + 1) d (stq B N f d ns).2 (tb9 B N T ns f SD) sN
        have cbn := cb9_n (B := B) (N := N) (ns := ns + 1) (S := S ns) d (stq B N f d ns).2 (tb9 B N T ns f SD) (fun e he => by rw [tb9_o (Or.inr (by decide))]; exact (St e he).1) inc
        rw [eC] at cbb cbn
        have tn : tb9 B N T ns f SD 0 ns ≠ 4 := by rw [tb9_n.1]; exact k4
        have fiN : (fi9 B N C.1 C.2.1).2 ≤ N := by
          unfold fi9
          split
          · exact (nx_b cbb.1).2.1
          · split <;> exact cbb.1
        have fi0 : (fi9 B N C.1 C.2.1).1.2 = false → C.2.1 = 0 := by
          unfold fi9
          split
          · exact fun q => absurd (show true = false from q) (by decide)
          · split
            · rename_i w; exact fun _ => w.2
            · exact fun q => absurd (show true = false from q) (by decide)
        refine ⟨fiN, by show ns + 1 ≤ 24; omega, by show C.2.1 ≤ 4; omega, fi0, rngs _ (fun r hr => cbb.2.2.2 r (by omega)), sdbs, fun q => if q = ns + 1 then C.2.1 else D q, fun q e => if q = ns + 1 then S ns e else S q e, ?_, ?_, ?_, ?_, ?_, ?_⟩
        · show (if (0 : Nat) = ns + 1 then C.2.1 else D 0) = 0
          rw [if_neg (by omega)]; exact D0
        · show (if ns + 1 = ns + 1 then C.2.1 else D (ns + 1)) = C.2.1
          rw [if_pos rfl]
        · intro e he
          change e < C.2.1 at he
          show C.2.2 5 e = ((if ns + 1 = ns + 1 then S ns e else S (ns + 1) e : Nat) : Int) ∧ (if ns + 1 = ns + 1 then S ns e else S (ns + 1) e) < ns + 1
          rw [if_pos rfl, cbb.2.2.2 5 (by decide), tb9_o (Or.inr (by decide))]
          have := St e (by omega)
          exact ⟨this.1, by omega⟩
        · intro e e' a b
          change e' < C.2.1 at b
          show (if ns + 1 = ns + 1 then S ns e else S (ns + 1) e) < (if ns + 1 = ns + 1 then S ns e' else S (ns + 1) e')
          rw [if_pos rfl, if_pos rfl]
          exact inc e e' a (by omega)
        · intro k hk
          change k < ns + 1 at hk
          show STP9 _ _ C.2.2 k
          by_cases e : k = ns
          · subst e
            refine ⟨fun q => absurd (by rw [← cbb.2.2.2 0 (by decide)]; exact q) tn, fun _ => ?_⟩
            show (if k + 1 = k + 1 then C.2.1 else D (k + 1)) ≤ (if k = k + 1 then C.2.1 else D k) ∧ (∀ e, e < (if k + 1 = k + 1 then C.2.1 else D (k + 1)) → (if k + 1 = k + 1 then S k e else S (k + 1) e) = (if k = k + 1 then S k e else S k e)) ∧ ∀ e, (if k + 1 = k + 1 then C.2.1 else D (k + 1)) ≤ e → e < (if k = k + 1 then C.2.1 else D k) → C.2.2 4 (if k = k + 1 then S k e else S k e) = ((k + 1 : Nat) : Int)
            rw [if_neg (show k ≠ k + 1 by omega), if_pos rfl, Dn]
            refine ⟨cbb.2.2.1, fun e he => ?_, fun e a b => ?_⟩
            · rw [if_pos rfl, if_neg (by omega)]
            · rw [if_neg (by omega)]; exact cbn.1 e a b
          · refine (stp9 k (by omega)).of (ns := ns) (by omega) (fun q hq => if_neg (by omega)) (fun q hq => ?_) ?_ (fun q9 e' a b => ?_)
            · funext e'; exact if_neg (by omega)
            · rw [cbb.2.2.2 0 (by decide), tb9_o (Or.inl e)]
            · rw [cbn.2 (S k e') (fun e9 p q => ncl k (by omega) q9 e' a b e9 q), tb9_o (Or.inr (by decide))]
        · intro k hk q e a b e' he'
          change k < ns + 1 at hk
          change e' < C.2.1 at he'
          change C.2.2 0 k ≠ 4 at q
          change (if k + 1 = ns + 1 then C.2.1 else D (k + 1)) ≤ e at a
          change e < (if k = ns + 1 then C.2.1 else D k) at b
          rw [if_neg (by omega)] at b
          show (if k = ns + 1 then S ns e else S k e) ≠ (if ns + 1 = ns + 1 then S ns e' else S (ns + 1) e')
          rw [if_neg (by omega), if_pos rfl]
          by_cases kn : k = ns
          · subst kn
            rw [if_pos rfl] at a
            have := inc e' e (by omega) (by omega)
            omega
          · rw [if_neg (by omega)] at a
            rw [cbb.2.2.2 0 (by decide), tb9_o (Or.inl kn)] at q
            exact ncl k (by omega) q e a b e' (by omega)
theorem pit_n {B : Nat → Int} {N : Nat} (n400 : N ≤ 400) : ∀ (m : Nat) (s : pS), s.1.1 = false → NS9 N s → (pit B N m s).1.1 = false → NS9 N (pit B N m s) := by
  intro m
  induction m with
  | zero => intro s _ h _; exact h
  | succ m ih =>
    intro s hb h g
    rw [pit] at g ⊢
    obtain ⟨⟨b, mo⟩, ⟨f, ns, d⟩, T, SD⟩ := s
    cases e : (pz B N ((b, mo), (f, ns, d), T, SD)).1.1 with
    | true =>
      exfalso
      generalize pz B N ((b, mo), (f, ns, d), T, SD) = z at e g
      obtain ⟨⟨b2, mo2⟩, ⟨f2, ns2, d2⟩, T2, SD2⟩ := z
      change b2 = true at e
      rw [pit_s (Or.inl e)] at g
      change b2 = false at g
      rw [e] at g
      exact absurd g (by decide)
    | false => exact ih _ e (pz_n n400 hb h e) g
/-- a recipe that was read -/
def WF9 (D : Nat → Nat) (S : Nat → Nat → Nat) (T : jH) (ns : Nat) (SD : List Int) : Prop := D 0 = 0 ∧ D ns = 0 ∧ ns ≤ 24 ∧ (∀ k, k < ns → STP9 D S T k) ∧ (∀ i, i < ns → RNG T i SD.length) ∧ ∀ v, v ∈ SD → 0 ≤ v ∧ v ≤ 255
theorem pX_wf {B : Nat → Int} {N : Nat} (n400 : N ≤ 400) {f ns d : Nat} {T : jH} {SD : List Int} (h : pX B N = ((false, false), (f, ns, d), T, SD)) : d = 0 ∧ ∃ D S, WF9 D S T ns SD := by
  have a := pit_n (B := B) n400 25 ((false, true), (skw B N 0, 0, 0), (fun _ _ => 0), []) rfl ⟨(skw_b (Nat.zero_le _)).2, by show 0 ≤ 24; omega, by show 0 ≤ 4; omega, fun _ => rfl, fun i hi => absurd hi (Nat.not_lt_zero _), fun v hv => absurd hv (List.not_mem_nil), fun _ => 0, fun _ _ => 0, rfl, rfl, fun e he => absurd he (Nat.not_lt_zero _), fun e e' _ he => absurd he (Nat.not_lt_zero _), fun k hk => absurd hk (Nat.not_lt_zero _), fun k hk => absurd hk (Nat.not_lt_zero _)⟩ (by
    have e : (pX B N).1.1 = false := by rw [h]
    exact e)
  change NS9 N (pX B N) at a
  rw [h] at a
  obtain ⟨_, n24, _, d0, rng, sdb, D, S, D0, Dn, _, _, st, _⟩ := a
  have d00 : d = 0 := d0 rfl
  exact ⟨d00, D, S, D0, by rw [← d00]; exact Dn, n24, st, rng, sdb⟩
