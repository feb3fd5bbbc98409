/-! recipes: a step -/
section RP
variable (B : Nat → Int) (N : Nat)
def kd9 (f : Nat) : Int := if wd B N f 0 = true then 0 else if wd B N f 3 = true then 1 else if wd B N f 5 = true then 2 else if wd B N f 6 = true then 3 else if wd B N f 8 = true then 4 else -1
def mvp (σ : Bool × Nat) (t : Nat → Bool) : Bool × Nat := mv9 B N σ.1 σ.2 (t σ.2)
def sT0 (f : Nat) : Bool × Nat := mvp B N (mvp B N (mvp B N (false, nx B N f) (fun q => nb B N q 1 64)) (fun q => wd B N q 1)) (fun q => nb B N q 0 63)
def sT (f : Nat) : Bool × Nat := if (sT0 B N f).1 = false ∧ wd B N (sT0 B N f).2 2 = true then mvp B N (false, nx B N (sT0 B N f).2) (fun q => nb B N q 0 255) else sT0 B N f
def sF9 (f w9 : Nat) (lo hi : Int) : Bool × Nat := mvp B N (mvp B N (mvp B N (false, nx B N f) (fun q => nb B N q 1 64)) (fun q => wd B N q w9)) (fun q => nb B N q lo hi)
def sM9 (f d : Nat) : Bool × Nat := mvp B N (mvp B N (false, nx B N f) (fun q => nb B N q 1 9)) (fun q => sg B N q 40 && decide (d < 4))
def sS9 : Nat → Nat → (Bool × Nat) × List Int
  | 0, p => ((true, p), [])
  | m + 1, p => if nb B N p 0 255 = true then (if sg B N (nx B N p) 44 = true then ((sS9 m (nx B N (nx B N p))).1, nv B N p :: (sS9 m (nx B N (nx B N p))).2) else ((false, nx B N p), [nv B N p])) else ((true, p), [])
def sSy (f : Nat) : (Bool × Nat) × List Int := sS9 B N (N + 1 - nx B N f) (nx B N f)
/-- a step that begins at f, d brackets open: does it fail, and where, or where it ends -/
def stp (f d : Nat) : Bool × Nat := if kd9 B N f = 0 then sT B N f else if kd9 B N f = 1 then sF9 B N f 4 0 255 else if kd9 B N f = 2 then (sSy B N f).1 else if kd9 B N f = 3 then sF9 B N f 7 1 64 else if kd9 B N f = 4 then sM9 B N f d else (true, f)
def vM9 (f : Nat) : Int := if kd9 B N f = 2 then ((sSy B N f).2.length : Int) else nv B N (nx B N f)
def vW9 (f s0 : Nat) : Int := if kd9 B N f = 2 then (s0 : Int) else nv B N (nx B N (nx B N (nx B N f)))
def vY9 (f : Nat) : Int := if kd9 B N f = 0 ∧ wd B N (nx B N (nx B N (nx B N (nx B N f)))) 2 = true then nv B N (nx B N (nx B N (nx B N (nx B N (nx B N f))))) else 0
def vS9 (f : Nat) : List Int := if kd9 B N f = 2 then (sSy B N f).2 else []
end RP
section RQ
variable {B : Nat → Int} {N : Nat}
theorem mvp_g {σ : Bool × Nat} {t : Nat → Bool} (h : (mvp B N σ t).1 = false) : σ.1 = false ∧ t σ.2 = true ∧ (mvp B N σ t).2 = nx B N σ.2 := by
  unfold mvp at *
  obtain ⟨b, f⟩ := σ
  cases b with
  | true => exact absurd (show true = false from h) (by decide)
  | false =>
    cases e : t f with
    | true => exact ⟨rfl, rfl, rfl⟩
    | false => rw [show mv9 B N (false, f).1 (false, f).2 (t (false, f).2) = (true, f) from by show mv9 B N false f (t f) = _; rw [e]; rfl] at h; exact absurd (show true = false from h) (by decide)
theorem mvp_t {f : Nat} {t : Nat → Bool} (h : t f = true) : mvp B N (false, f) t = (false, nx B N f) := by
  show mv9 B N false f (t f) = _; rw [h]; rfl
theorem mvp_f {f : Nat} {t : Nat → Bool} (h : t f = false) : mvp B N (false, f) t = (true, f) := by
  show mv9 B N false f (t f) = _; rw [h]; rfl
theorem mvp_b {f : Nat} {t : Nat → Bool} : mvp B N (true, f) t = (true, f) := rfl
theorem mvp_N {σ : Bool × Nat} {t : Nat → Bool} (h : σ.2 ≤ N) : (mvp B N σ t).2 ≤ N := by
  obtain ⟨b, f⟩ := σ
  cases b with
  | true => exact h
  | false =>
    cases e : t f with
    | true => rw [mvp_t e]; exact (nx_b h).2.1
    | false => rw [mvp_f e]; exact h
theorem nb_lt {f : Nat} {lo hi : Int} (h : nb B N f lo hi = true) : f < N := by
  unfold nb at h
  have a := (of_decide_eq_true h).1
  by_cases c : f < N
  · exact c
  · rw [gt9_o (by omega)] at a; exact absurd a (by decide)
theorem sg_lt {f : Nat} {c : Int} (c0 : 0 ≤ c) (h : sg B N f c = true) : f < N := by
  unfold sg at h
  have a := of_decide_eq_true h
  by_cases d : f < N
  · exact d
  · rw [gt9_o (by omega)] at a; omega
theorem wd_lt {f k : Nat} (hf : f ≤ N) (hk : k < 9) (h : wd B N f k = true) : f < N := by
  have a := ((wd_e hf hk).mp h).1
  have b := srt9_r (B := B) (N := N) (f := f)
  by_cases c : f < N
  · exact c
  · have := b.2.2.mpr (by omega); omega
theorem sS9_n {m p : Nat} (h : nb B N p 0 255 = false) : sS9 B N (m + 1) p = ((true, p), []) := by rw [sS9, if_neg (by rw [h]; decide)]
theorem sS9_c {m p : Nat} (h : nb B N p 0 255 = true) (h2 : sg B N (nx B N p) 44 = true) : sS9 B N (m + 1) p = ((sS9 B N m (nx B N (nx B N p))).1, nv B N p :: (sS9 B N m (nx B N (nx B N p))).2) := by rw [sS9, if_pos h, if_pos h2]
theorem sS9_e {m p : Nat} (h : nb B N p 0 255 = true) (h2 : sg B N (nx B N p) 44 = false) : sS9 B N (m + 1) p = ((false, nx B N p), [nv B N p]) := by rw [sS9, if_pos h, if_neg (by rw [h2]; decide)]
/-- more fuel than is needed changes nothing -/
theorem sS9_mm : ∀ m m' p, p ≤ N → N - p < m → N - p < m' → sS9 B N m p = sS9 B N m' p := by
  intro m
  induction m with
  | zero => intro m' p _ h; omega
  | succ m ih =>
    intro m' p hp h h'
    cases m' with
    | zero => omega
    | succ k =>
      cases a : nb B N p 0 255 with
      | false => rw [sS9_n a, sS9_n a]
      | true =>
        have pN := nb_lt a
        have n1 := nx_b (B := B) hp
        cases b : sg B N (nx B N p) 44 with
        | false => rw [sS9_e a b, sS9_e a b]
        | true =>
          have qN := sg_lt (by decide) b
          have n2 := nx_b (B := B) (f := nx B N p) n1.2.1
          have n1c := n1.2.2 pN
          have n2c := n2.2.2 qN
          rw [sS9_c a b, sS9_c a b, ih k (nx B N (nx B N p)) n2.2.1 (by omega) (by omega)]
theorem sS9_m (m p : Nat) (hp : p ≤ N) (h : N - p < m) : sS9 B N m p = sS9 B N (N + 1 - p) p := sS9_mm m (N + 1 - p) p hp h (by omega)
/-- one number more -/
theorem sS9_s {p : Nat} (hp : p ≤ N) (h : nb B N p 0 255 = true) (h2 : sg B N (nx B N p) 44 = true) : sS9 B N (N + 1 - p) p = ((sS9 B N (N + 1 - nx B N (nx B N p)) (nx B N (nx B N p))).1, nv B N p :: (sS9 B N (N + 1 - nx B N (nx B N p)) (nx B N (nx B N p))).2) := by
  have pN := nb_lt h
  have n1 := nx_b (B := B) hp
  have qN := sg_lt (by decide) h2
  have n2 := nx_b (B := B) (f := nx B N p) n1.2.1
  have n1c := n1.2.2 pN
  have n2c := n2.2.2 qN
  rw [show N + 1 - p = (N - p) + 1 by omega, sS9_c h h2, sS9_m (N - p) _ n2.2.1 (by omega)]
theorem sS9_b : ∀ m p, p ≤ N → N - p < m → (sS9 B N (N + 1 - p) p).1.2 ≤ N ∧ (sS9 B N (N + 1 - p) p).2.length + p ≤ N + 1 ∧ (∀ v ∈ (sS9 B N (N + 1 - p) p).2, 0 ≤ v ∧ v ≤ 255) ∧ ((sS9 B N (N + 1 - p) p).1.1 = false → 1 ≤ (sS9 B N (N + 1 - p) p).2.length ∧ (sS9 B N (N + 1 - p) p).2.length + p ≤ N) := by
  intro m
  induction m with
  | zero => intro p _ h; omega
  | succ m ih =>
    intro p hp h
    have n1 := nx_b (B := B) hp
    cases a : nb B N p 0 255 with
    | false =>
      rw [show N + 1 - p = (N - p) + 1 by omega, sS9_n a]
      exact ⟨hp, by show 0 + p ≤ _; omega, fun v hv => absurd hv List.not_mem_nil, fun q => absurd (show true = false from q) (by decide)⟩
    | true =>
      have pN := nb_lt a
      have nv9 := nb_v hp (by decide) a
      cases b : sg B N (nx B N p) 44 with
      | false =>
        rw [show N + 1 - p = (N - p) + 1 by omega, sS9_e a b]
        exact ⟨n1.2.1, by show 1 + p ≤ _; omega, fun v hv => by rw [List.mem_singleton.mp hv]; omega, fun _ => ⟨Nat.le_refl _, by show 1 + p ≤ N; omega⟩⟩
      | true =>
        have qN := sg_lt (by decide) b
        have n2 := nx_b (B := B) (f := nx B N p) n1.2.1
        have n1c := n1.2.2 pN
        have n2c := n2.2.2 qN
        have r := ih (nx B N (nx B N p)) n2.2.1 (by omega)
        rw [sS9_s hp a b]
        refine ⟨r.1, ?_, fun v hv => ?_, fun q => ?_⟩
        · show (_ + 1) + p ≤ _; omega
        · rcases List.mem_cons.mp hv with e | e
          · rw [e]; omega
          · exact r.2.2.1 v e
        · have r2 := r.2.2.2 q
          refine ⟨by show 1 ≤ _ + 1; omega, by show (_ + 1) + p ≤ N; omega⟩
theorem kd9_r (f : Nat) : -1 ≤ kd9 B N f ∧ kd9 B N f ≤ 4 := by
  unfold kd9
  split; omega
  split; omega
  split; omega
  split; omega
  split <;> omega
theorem kd9_lt {f : Nat} (hf : f ≤ N) (h : kd9 B N f ≠ -1) : f < N := by
  by_cases c : f < N
  · exact c
  · exfalso
    apply h
    have z : ∀ k, k < 9 → wd B N f k = false := fun k hk => Bool.eq_false_iff.mpr (fun q => c (wd_lt hf hk q))
    unfold kd9
    rw [z 0 (by decide), z 3 (by decide), z 5 (by decide), z 6 (by decide), z 8 (by decide)]
    rfl
theorem stp_N {f d : Nat} (hf : f ≤ N) : (stp B N f d).2 ≤ N := by
  have n1 := (nx_b (B := B) hf).2.1
  unfold stp
  split
  · unfold sT
    split
    · exact mvp_N (nx_b (B := B) (mvp_N (mvp_N (mvp_N n1)))).2.1
    · exact mvp_N (mvp_N (mvp_N n1))
  · split
    · exact mvp_N (mvp_N (mvp_N n1))
    · split
      · exact (sS9_b (N - nx B N f + 1) _ n1 (by omega)).1
      · split
        · exact mvp_N (mvp_N (mvp_N n1))
        · split
          · exact mvp_N (mvp_N n1)
          · exact hf
end RQ
