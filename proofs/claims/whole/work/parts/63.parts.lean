/-! a patch read: its parts -/
theorem jI_divN {x y : Int} (hx : 0 ≤ x) (hx2 : x < 2147483648) (hy : 0 < y) (hy2 : y < 2147483648) : jI (-x) / jI y = jI (-(x / y)) := by
  apply Int32.toInt_inj.mp
  have h1 : x / y ≤ x := Int.ediv_le_self _ hx
  have h0 : 0 ≤ x / y := Int.ediv_nonneg hx (by omega)
  rw [Int32.toInt_div, jI_toInt ⟨by omega, by omega⟩, jI_toInt ⟨by omega, hy2⟩, jI_toInt ⟨by omega, by omega⟩, Int.neg_tdiv, Int.tdiv_eq_ediv_of_nonneg hx]
  exact Int.bmod_eq_of_le (by omega) (by omega)
theorem je_idivN {l : Launch} {j pc : Nat} {L : jLo} {st : List Value} {G G' : jG} {v : Option Value} {x y : Int} (hi : jIns j pc = some (.idiv, 1, 0)) (h1 : 0 ≤ x) (h2 : x < 2147483648) (h3 : 0 < y) (h4 : y < 2147483648) (k : jE l j (pc + 1) L (.int (jI (-(x / y))) :: st) G v G') : jE l j pc L (.int (jI y) :: .int (jI (-x)) :: st) G v G' := by
  intro p e R s m args below meth c D dA base ro N0 S0 Q ls H locs cells slots hC hc hs hend hL hI
  have hd := (jdec hi).1
  have hne : ¬ jI y = 0 := fun z => by have := (jI_eq ⟨by omega, h4⟩ jr_0).mp z; omega
  refine lv_idiv hC.1 hC.2.1 hd hne ?_
  rw [jI_divN h1 h2 h3 h4]
  exact k p e R s m args below meth c D dA base ro N0 S0 Q ls H locs cells slots hC hc hs hend hL hI
theorem tl_idivN {l : Launch} {j pc : Nat} {L : jLo} {st : List Value} {h : jH} {P : Option Value → jH → Prop} {x y : Int} (hi : jIns j pc = some (.idiv, 1, 0)) (h1 : 0 ≤ x) (h2 : x < 2147483648) (h3 : 0 < y) (h4 : y < 2147483648) (k : jT l j (pc + 1) L (.int (jI (-(x / y))) :: st) h P) : jT l j pc L (.int (jI y) :: .int (jI (-x)) :: st) h P := by
  obtain ⟨v, h', hp, hE⟩ := k
  exact ⟨v, h', hp, je_idivN hi h1 h2 h3 h4 hE⟩
def sk9 (s : Int) : Int := if s % 2 = 0 then s / 2 else -((s + 1) / 2)
/-- the three numbers of a part at p -/
def pA (B : Nat → Int) (N p : Nat) : Int × Nat := rn B N p
def pB (B : Nat → Int) (N p : Nat) : Int × Nat := rn B N (pA B N p).2
def pC (B : Nat → Int) (N p : Nat) : Int × Nat := rn B N (pB B N p).2
def ptU (i p2 : Nat) (F b c : Int) (S : jH) : jH := fun r q => if r = 0 then (if q = 1 then (p2 : Int) else if q = 2 then F + b else if q = 3 then S 0 3 + b + c else if q = 4 then S 0 4 + b else S 0 q) else if q = i then (if r = 1 then F else if r = 2 then b else if r = 3 then c else if r = 4 then S 0 3 else S r q) else S r q
def pt1 (B : Nat → Int) (N : Nat) (os ns : Int) (i : Nat) (S : jH) : jH := if (pA B N (S 0 1).toNat).1 < 0 ∨ (pB B N (S 0 1).toNat).1 < 0 ∨ (pC B N (S 0 1).toNat).1 < 0 then hs S 0 0 3 else if S 0 2 + sk9 (pA B N (S 0 1).toNat).1 < 0 ∨ os < S 0 2 + sk9 (pA B N (S 0 1).toNat).1 + (pB B N (S 0 1).toNat).1 ∨ ns < S 0 3 + (pB B N (S 0 1).toNat).1 + (pC B N (S 0 1).toNat).1 then hs S 0 0 5 else ptU i (pC B N (S 0 1).toNat).2 (S 0 2 + sk9 (pA B N (S 0 1).toNat).1) (pB B N (S 0 1).toNat).1 (pC B N (S 0 1).toNat).1 S
def ptS (B : Nat → Int) (N : Nat) (os ns : Int) (p0 : Nat) : Nat → jH
  | 0 => hs (fun _ _ => 0) 0 1 (p0 : Int)
  | i + 1 => if ptS B N os ns p0 i 0 0 = 0 then pt1 B N os ns i (ptS B N os ns p0 i) else ptS B N os ns p0 i
theorem ptS_st {B : Nat → Int} {N : Nat} {os ns : Int} {p0 i : Nat} (h : ptS B N os ns p0 i 0 0 ≠ 0) : ∀ k, ptS B N os ns p0 (i + k) = ptS B N os ns p0 i := by
  intro k
  induction k with
  | zero => rfl
  | succ k ih => rw [show i + (k + 1) = i + k + 1 by omega, ptS, ih, if_neg h]
/-- what holds of the parts read without a flaw -/
def PTI (N : Nat) (os ns : Int) (p0 i : Nat) (S : jH) : Prop := ((p0 : Int) + 3 * i ≤ S 0 1 ∧ S 0 1 ≤ N) ∧ (0 ≤ S 0 2 ∧ S 0 2 ≤ os) ∧ (0 ≤ S 0 3 ∧ S 0 3 ≤ ns) ∧ (0 ≤ S 0 4 ∧ S 0 4 ≤ S 0 3 ∧ S 0 4 = sm (S 2) i) ∧ (i = 0 → S 0 3 = 0) ∧ (0 < i → S 4 0 = 0) ∧ ∀ q, q < i → (0 ≤ S 1 q ∧ 0 ≤ S 2 q ∧ 0 ≤ S 3 q ∧ 0 ≤ S 4 q ∧ S 1 q + S 2 q ≤ os) ∧ S 4 q + S 2 q + S 3 q = (if q + 1 < i then S 4 (q + 1) else S 0 3)
theorem ptS_I {B : Nat → Int} {N : Nat} {os ns : Int} {p0 : Nat} (hB : BB B N) (hp : p0 ≤ N) (o0 : 0 ≤ os) (n0 : 0 ≤ ns) : ∀ i, ptS B N os ns p0 i 0 0 = 0 → PTI N os ns p0 i (ptS B N os ns p0 i) := by
  intro i
  induction i with
  | zero =>
    intro _
    have z : ∀ r q, ¬ (r = 0 ∧ q = 1) → ptS B N os ns p0 0 r q = 0 := fun r q h => by
      show hs (fun _ _ => 0) 0 1 (p0 : Int) r q = 0
      unfold hs
      rw [if_neg h]
    have z1 : ptS B N os ns p0 0 0 1 = (p0 : Int) := hs_s
    refine ⟨by rw [z1]; omega, by rw [z 0 2 (by omega)]; omega, by rw [z 0 3 (by omega)]; omega, ?_, fun _ => z 0 3 (by omega), fun h => by omega, fun q hq => by omega⟩
    rw [z 0 4 (by omega), z 0 3 (by omega)]
    exact ⟨Int.le_refl _, Int.le_refl _, rfl⟩
  | succ i ih =>
    intro hf
    by_cases c : ptS B N os ns p0 i 0 0 = 0
    · obtain ⟨⟨a1, a2⟩, a3, a4, a5, a6, a7, a8⟩ := ih c
      rw [ptS, if_pos c] at hf ⊢
      generalize ptS B N os ns p0 i = S at *
      obtain ⟨b1, b2, b3, b4⟩ := rn_b (p := (S 0 1).toNat) hB (by omega)
      obtain ⟨d1, d2, d3, d4⟩ := rn_b hB b3
      obtain ⟨e1, e2, e3, e4⟩ := rn_b hB d3
      rw [pt1] at hf ⊢
      by_cases x : (pA B N (S 0 1).toNat).1 < 0 ∨ (pB B N (S 0 1).toNat).1 < 0 ∨ (pC B N (S 0 1).toNat).1 < 0
      · rw [if_pos x, hs_s] at hf; omega
      · rw [if_neg x] at hf ⊢
        by_cases y : S 0 2 + sk9 (pA B N (S 0 1).toNat).1 < 0 ∨ os < S 0 2 + sk9 (pA B N (S 0 1).toNat).1 + (pB B N (S 0 1).toNat).1 ∨ ns < S 0 3 + (pB B N (S 0 1).toNat).1 + (pC B N (S 0 1).toNat).1
        · rw [if_pos y, hs_s] at hf; omega
        · rw [if_neg y]
          have g1 : (S 0 1).toNat + 3 ≤ (pC B N (S 0 1).toNat).2 ∧ (pC B N (S 0 1).toNat).2 ≤ N := by
            have u1 : (S 0 1).toNat + 1 ≤ (pA B N (S 0 1).toNat).2 := b4 (by show 0 ≤ (pA B N (S 0 1).toNat).1; omega)
            have u2 : (pA B N (S 0 1).toNat).2 + 1 ≤ (pB B N (S 0 1).toNat).2 := d4 (by show 0 ≤ (pB B N (S 0 1).toNat).1; omega)
            have u3 : (pB B N (S 0 1).toNat).2 + 1 ≤ (pC B N (S 0 1).toNat).2 := e4 (by show 0 ≤ (pC B N (S 0 1).toNat).1; omega)
            exact ⟨by omega, e3⟩
          generalize (pC B N (S 0 1).toNat).2 = p2 at g1 ⊢
          generalize S 0 2 + sk9 (pA B N (S 0 1).toNat).1 = F at y ⊢
          generalize (pB B N (S 0 1).toNat).1 = b at x y ⊢
          generalize (pC B N (S 0 1).toNat).1 = cc at x y ⊢
          have u1 : ptU i p2 F b cc S 0 1 = (p2 : Int) := rfl
          have u2 : ptU i p2 F b cc S 0 2 = F + b := rfl
          have u3 : ptU i p2 F b cc S 0 3 = S 0 3 + b + cc := rfl
          have u4 : ptU i p2 F b cc S 0 4 = S 0 4 + b := rfl
          have w1 : ∀ r q, r ≠ 0 → q ≠ i → ptU i p2 F b cc S r q = S r q := fun r q hr hq => by unfold ptU; rw [if_neg hr, if_neg hq]
          have v1 : ptU i p2 F b cc S 1 i = F := by unfold ptU; rw [if_neg (by decide), if_pos rfl, if_pos rfl]
          have v2 : ptU i p2 F b cc S 2 i = b := by unfold ptU; rw [if_neg (by decide), if_pos rfl, if_neg (by decide), if_pos rfl]
          have v3 : ptU i p2 F b cc S 3 i = cc := by unfold ptU; rw [if_neg (by decide), if_pos rfl, if_neg (by decide), if_neg (by decide), if_pos rfl]
          have v4 : ptU i p2 F b cc S 4 i = S 0 3 := by unfold ptU; rw [if_neg (by decide), if_pos rfl, if_neg (by decide), if_neg (by decide), if_neg (by decide), if_pos rfl]
          have sm9 : sm (ptU i p2 F b cc S 2) (i + 1) = sm (S 2) i + b := by
            have e : sm (ptU i p2 F b cc S 2) (i + 1) = sm (ptU i p2 F b cc S 2) i + ptU i p2 F b cc S 2 i := rfl
            rw [e, v2, sm_congr i (fun q hq => w1 2 q (by decide) (by omega))]
          refine ⟨by rw [u1]; omega, by rw [u2]; omega, by rw [u3]; omega, ?_, fun h => by omega, fun _ => ?_, fun q hq => ?_⟩
          · rw [u4, u3, sm9]; omega
          · by_cases z : i = 0
            · subst z; rw [v4]; exact a6 rfl
            · rw [w1 4 0 (by decide) (by omega)]; exact a7 (by omega)
          · by_cases z : q = i
            · subst z
              rw [v1, v2, v3, v4, u3, if_neg (by omega)]; omega
            · obtain ⟨h1, h2⟩ := a8 q (by omega)
              rw [w1 1 q (by decide) z, w1 2 q (by decide) z, w1 3 q (by decide) z, w1 4 q (by decide) z, if_pos (by omega)]
              refine ⟨h1, ?_⟩
              rw [h2]
              by_cases z2 : q + 1 = i
              · rw [if_neg (by omega), z2, v4]
              · rw [if_pos (by omega), w1 4 (q + 1) (by decide) z2]
    · rw [ptS, if_neg c] at hf; exact absurd hf c
/-- the flaw of the parts -/
def ptF (B : Nat → Int) (N : Nat) (os ns : Int) (p0 np : Nat) : Int := if ptS B N os ns p0 np 0 0 = 0 then (if ptS B N os ns p0 np 0 3 < ns then 5 else 0) else ptS B N os ns p0 np 0 0
theorem pt1_a {B : Nat → Int} {N : Nat} {os ns : Int} {i : Nat} {S : jH} (h : (pA B N (S 0 1).toNat).1 < 0 ∨ (pB B N (S 0 1).toNat).1 < 0 ∨ (pC B N (S 0 1).toNat).1 < 0) : pt1 B N os ns i S = hs S 0 0 3 := by rw [pt1, if_pos h]
theorem pt1_b {B : Nat → Int} {N : Nat} {os ns : Int} {i : Nat} {S : jH} (h : ¬ ((pA B N (S 0 1).toNat).1 < 0 ∨ (pB B N (S 0 1).toNat).1 < 0 ∨ (pC B N (S 0 1).toNat).1 < 0)) (h2 : S 0 2 + sk9 (pA B N (S 0 1).toNat).1 < 0 ∨ os < S 0 2 + sk9 (pA B N (S 0 1).toNat).1 + (pB B N (S 0 1).toNat).1 ∨ ns < S 0 3 + (pB B N (S 0 1).toNat).1 + (pC B N (S 0 1).toNat).1) : pt1 B N os ns i S = hs S 0 0 5 := by rw [pt1, if_neg h, if_pos h2]
theorem pt1_c {B : Nat → Int} {N : Nat} {os ns : Int} {i : Nat} {S : jH} (h : ¬ ((pA B N (S 0 1).toNat).1 < 0 ∨ (pB B N (S 0 1).toNat).1 < 0 ∨ (pC B N (S 0 1).toNat).1 < 0)) (h2 : ¬ (S 0 2 + sk9 (pA B N (S 0 1).toNat).1 < 0 ∨ os < S 0 2 + sk9 (pA B N (S 0 1).toNat).1 + (pB B N (S 0 1).toNat).1 ∨ ns < S 0 3 + (pB B N (S 0 1).toNat).1 + (pC B N (S 0 1).toNat).1)) : pt1 B N os ns i S = ptU i (pC B N (S 0 1).toNat).2 (S 0 2 + sk9 (pA B N (S 0 1).toNat).1) (pB B N (S 0 1).toNat).1 (pC B N (S 0 1).toNat).1 S := by rw [pt1, if_neg h, if_neg h2]
