/-! listed, listing: the text as a list -/
section SZ
variable {l : Launch} {j pc : Nat} {L : jLo} {st : List Value} {h : jH} {P : Option Value → jH → Prop}
theorem tl_slen {idx k : Nat} (hi : jIns j pc = some (.invokevirtual idx, 3, 10005)) (hk : k < 13) (hK : Nat.ble 5 (jK j) = true) (hst : (st.map fun v => v.category).sum ≤ 8) (kk : jT l j (pc + 3) L (.int (jI ((sI k).length : Int)) :: st) h P) : jT l j pc L (.ref (2000000 + k) :: st) h P := by
  obtain ⟨v, h', hp, hE⟩ := kk
  exact ⟨v, h', hp, je_slen (Nat.le_refl _) (Nat.le_refl _) hi hk hK hst hE⟩
theorem tl_schr {idx k i : Nat} (hi : jIns j pc = some (.invokevirtual idx, 3, 10006)) (hk : k < 13) (hK : Nat.ble 5 (jK j) = true) (hin : i < (sI k).length) (hst : (st.map fun v => v.category).sum ≤ 8) (kk : jT l j (pc + 3) L (.int (jI ((sI k).getD i 0)) :: st) h P) : jT l j pc L (.int (jI (i : Int)) :: .ref (2000000 + k) :: st) h P := by
  obtain ⟨v, h', hp, hE⟩ := kk
  exact ⟨v, h', hp, je_schr hin (Nat.le_refl _) (Nat.le_refl _) hi hk hK hst hE⟩
end SZ
def dg (v : Int) : List Int := if 100 ≤ v then [48 + v / 100 % 10, 48 + v / 10 % 10, 48 + v % 10] else if 10 ≤ v then [48 + v / 10 % 10, 48 + v % 10] else [48 + v % 10]
theorem dg_3 {v : Int} (h : 100 ≤ v) : dg v = [48 + v / 100 % 10, 48 + v / 10 % 10, 48 + v % 10] := by rw [dg, if_pos h]
theorem dg_2 {v : Int} (h : ¬ 100 ≤ v) (h2 : 10 ≤ v) : dg v = [48 + v / 10 % 10, 48 + v % 10] := by rw [dg, if_neg h, if_pos h2]
theorem dg_1 {v : Int} (h2 : ¬ 10 ≤ v) : dg v = [48 + v % 10] := by rw [dg, if_neg (by omega), if_neg h2]
theorem dg_len (v : Int) : 1 ≤ (dg v).length ∧ (dg v).length ≤ 3 ∧ (v < 100 → (dg v).length ≤ 2) ∧ (v < 10 → (dg v).length ≤ 1) := by
  by_cases a : 100 ≤ v
  · rw [dg_3 a]; exact ⟨Nat.le_of_ble_eq_true rfl, Nat.le_of_ble_eq_true rfl, fun _ => by omega, fun _ => by omega⟩
  · by_cases b : 10 ≤ v
    · rw [dg_2 a b]; exact ⟨Nat.le_of_ble_eq_true rfl, Nat.le_of_ble_eq_true rfl, fun _ => Nat.le_of_ble_eq_true rfl, fun _ => by omega⟩
    · rw [dg_1 b]; exact ⟨Nat.le_of_ble_eq_true rfl, Nat.le_of_ble_eq_true rfl, fun _ => Nat.le_of_ble_eq_true rfl, fun _ => Nat.le_of_ble_eq_true rfl⟩
def sp9 (T : List Int) : List Int := if T.length = 0 then T else T ++ [59]
theorem sp9_0 {T : List Int} (h : T.length = 0) : sp9 T = T := by rw [sp9, if_pos h]
theorem sp9_1 {T : List Int} (h : T.length ≠ 0) : sp9 T = T ++ [59] := by rw [sp9, if_neg h]
theorem sp9_len (T : List Int) : T.length ≤ (sp9 T).length ∧ (sp9 T).length ≤ T.length + 1 := by
  unfold sp9
  split
  · omega
  · rw [List.length_append]; show _ ∧ T.length + 1 ≤ _; omega
def tk5 (T : List Int) (n p : Int) : List Int := (((sp9 T ++ sI 9) ++ dg n) ++ sI 10) ++ dg p
def tkS (T : List Int) (n p v : Int) : List Int := if v = 0 then tk5 T n p else (tk5 T n p ++ sI 11) ++ dg v
theorem tk5_len (T : List Int) (n p : Int) : (tk5 T n p).length = (sp9 T).length + 9 + (dg n).length + (dg p).length := by
  unfold tk5
  rw [List.length_append, List.length_append, List.length_append, List.length_append, show (sI 9).length = 5 from rfl, show (sI 10).length = 4 from rfl]
  omega
theorem tkS_len (T : List Int) {n p v : Int} (n1 : 1 ≤ n) (n2 : n ≤ 64) (p2 : p ≤ 63) : ((tkS T n p v).length : Int) ≤ (T.length : Int) + 20 * n := by
  have a := tk5_len T n p
  have b := sp9_len T
  have c := dg_len n
  have d := dg_len p
  have e := dg_len v
  have c4 : n < 10 → (dg n).length ≤ 1 := c.2.2.2
  have d3 := d.2.2.1 (by omega)
  unfold tkS
  split
  · by_cases q : n < 10
    · have := c4 q; omega
    · omega
  · rw [List.length_append, List.length_append, show (sI 11).length = 4 from rfl]
    by_cases q : n < 10
    · have := c4 q; omega
    · omega
def clT (G : jH) (u : Nat) : Nat → Nat → Nat → List Int → List Int
  | 0, _, _, T => T
  | m + 1, f, s, T => if s = u ∨ G 1 s ≠ G 1 f then clT G u m s (s + 1) (tkS T ((s : Int) - (f : Int)) (G 0 f) (G 1 f)) else clT G u m f (s + 1) T
theorem clT_a {G : jH} {u f s : Nat} {T : List Int} (h : s ≤ u) (c : s = u ∨ G 1 s ≠ G 1 f) : clT G u (u + 1 - s) f s T = clT G u (u + 1 - (s + 1)) s (s + 1) (tkS T ((s : Int) - (f : Int)) (G 0 f) (G 1 f)) := by
  rw [show u + 1 - s = (u + 1 - (s + 1)) + 1 by omega, clT, if_pos c]
theorem clT_b {G : jH} {u f s : Nat} {T : List Int} (h : s ≤ u) (c : ¬ (s = u ∨ G 1 s ≠ G 1 f)) : clT G u (u + 1 - s) f s T = clT G u (u + 1 - (s + 1)) f (s + 1) T := by
  rw [show u + 1 - s = (u + 1 - (s + 1)) + 1 by omega, clT, if_neg c]
theorem clT_0 {G : jH} {u f s : Nat} {T : List Int} (h : u < s) : clT G u (u + 1 - s) f s T = T := by
  rw [show u + 1 - s = 0 by omega]; rfl
theorem clT_len {G : jH} {u : Nat} (hu : u ≤ 64) (hp : ∀ q, q < u → G 0 q ≤ 63) : ∀ m f s T, u + 1 - s < m → f < s → s ≤ u + 1 → (clT G u (u + 1 - s) f s T).length + 20 * f ≤ T.length + 20 * u := by
  intro m
  induction m with
  | zero => intro f s T h; omega
  | succ m ih =>
    intro f s T h h1 h2
    by_cases a : s ≤ u
    · by_cases c : s = u ∨ G 1 s ≠ G 1 f
      · rw [clT_a a c]
        have t := tkS_len T (n := (s : Int) - (f : Int)) (p := G 0 f) (v := G 1 f) (by omega) (by omega) (hp f (by omega))
        have i := ih s (s + 1) (tkS T ((s : Int) - (f : Int)) (G 0 f) (G 1 f)) (by omega) (by omega) (by omega)
        omega
      · rw [clT_b a c]
        exact ih f (s + 1) T (by omega) (by omega) (by omega)
    · rw [clT_0 (by omega)]; omega
def exS (G : jH) (b s : Nat) (T : List Int) : List Int := (if s = b then sp9 T ++ sI 12 else T ++ [44]) ++ dg (G 1 s)
theorem exS_len (G : jH) (b s : Nat) (T : List Int) : (exS G b s T).length ≤ T.length + 8 := by
  unfold exS
  have b9 := sp9_len T
  have e := dg_len (G 1 s)
  rw [List.length_append]
  split
  · rw [List.length_append, show (sI 12).length = 4 from rfl]; omega
  · rw [List.length_append]; show T.length + 1 + _ ≤ _; omega
def exT (G : jH) (b : Nat) : Nat → Nat → List Int → List Int
  | 0, _, T => T
  | m + 1, s, T => exT G b m (s + 1) (exS G b s T)
theorem exT_s {G : jH} {b u s : Nat} {T : List Int} (h : s < u) : exT G b (u - s) s T = exT G b (u - (s + 1)) (s + 1) (exS G b s T) := by
  rw [show u - s = (u - (s + 1)) + 1 by omega, exT]
theorem exT_len {G : jH} {b : Nat} : ∀ m s T, (exT G b m s T).length ≤ T.length + 20 * m := by
  intro m
  induction m with
  | zero => intro s T; show T.length ≤ _; omega
  | succ m ih =>
    intro s T
    have a := exS_len G b s T
    have i := ih (s + 1) (exS G b s T)
    rw [exT]
    omega
def pA9 (S : jH) (i : Nat) : Nat := (S 4 i).toNat
def pB9 (S : jH) (i : Nat) : Nat := (S 4 i).toNat + (S 2 i).toNat
def pC9 (S : jH) (i : Nat) : Nat := (S 4 i).toNat + (S 2 i).toNat + (S 3 i).toNat
def lsC (S G : jH) (i : Nat) (T : List Int) : List Int := clT G (pB9 S i) (pB9 S i + 1 - (pA9 S i + 1)) (pA9 S i) (pA9 S i + 1) T
def lsE (S G : jH) (i : Nat) (T : List Int) : List Int := exT G (pB9 S i) (pC9 S i - pB9 S i) (pB9 S i) T
def lsT (S G : jH) : Nat → List Int
  | 0 => []
  | i + 1 => lsE S G i (lsC S G i (lsT S G i))
/-- what the text is made of: parts one behind another, copies from places -/
def LOK (S G : jH) (n N : Nat) : Prop := (∀ q, q < n → 0 ≤ S 4 q ∧ 0 ≤ S 2 q ∧ 0 ≤ S 3 q ∧ S 4 q + S 2 q + S 3 q ≤ (N : Int) ∧ (q + 1 < n → S 4 (q + 1) = S 4 q + S 2 q + S 3 q) ∧ ∀ i : Nat, S 4 q ≤ (i : Int) → (i : Int) < S 4 q + S 2 q → 0 ≤ G 0 i) ∧ N ≤ 64 ∧ n ≤ 99 ∧ (∀ q, q < N → -1 ≤ G 0 q ∧ G 0 q ≤ 63 ∧ byt (G 1 q))
theorem lsC_len {S G : jH} {n N i : Nat} (k : LOK S G n N) (hi : i < n) (T : List Int) : (lsC S G i T).length ≤ T.length + 20 * (S 2 i).toNat := by
  have a := k.1 i hi
  have N4 := k.2.1
  have c := clT_len (G := G) (u := pB9 S i) (by unfold pB9; omega) (fun q hq => (k.2.2.2 q (by unfold pB9 at hq; omega)).2.1) (pB9 S i + 1) (pA9 S i) (pA9 S i + 1) T (by omega) (by omega) (by unfold pA9 pB9; omega)
  unfold lsC
  unfold pA9 pB9 at c ⊢
  omega
theorem lsE_len {S G : jH} {i : Nat} (T : List Int) : (lsE S G i T).length ≤ T.length + 20 * (S 3 i).toNat := by
  have c := exT_len (G := G) (b := pB9 S i) (pC9 S i - pB9 S i) (pB9 S i) T
  unfold lsE
  have e : pC9 S i - pB9 S i = (S 3 i).toNat := by unfold pC9 pB9; omega
  rw [e] at c ⊢
  exact c
theorem lsT_len {S G : jH} {n N : Nat} (k : LOK S G n N) (z : 0 < n → S 4 0 = 0) : ∀ i, i < n → (lsT S G i).length ≤ 20 * (S 4 i).toNat := by
  intro i
  induction i with
  | zero => intro h; show 0 ≤ _; omega
  | succ i ih =>
    intro h
    have a := k.1 i (by omega)
    have b := a.2.2.2.2.1 h
    have c := lsC_len k (show i < n by omega) (lsT S G i)
    have d := lsE_len (S := S) (G := G) (i := i) (lsC S G i (lsT S G i))
    have e := ih (by omega)
    rw [lsT]
    omega
theorem bq_mo {S : jH} {n : Nat} (h : ∀ q, q < n → 0 ≤ S 2 q ∧ 0 ≤ S 3 q) (i : Nat) : ∀ m, i + m ≤ n → bq S i ≤ bq S (i + m) := by
  intro m
  induction m with
  | zero => intro _; exact Int.le_refl _
  | succ m ih =>
    intro hm
    have a := ih (by omega)
    have b := h (i + m) (by omega)
    rw [show i + (m + 1) = (i + m) + 1 by omega, bq_s]
    omega
theorem rg_c {S : jH} {D X : List Int} {n : Nat} (h : ∀ q, q < n → 0 ≤ S 2 q ∧ 0 ≤ S 3 q) {i q : Nat} (q1 : bq S i ≤ (q : Int)) (q2 : (q : Int) < bq S i + S 2 i) : ∀ m, i + 1 + m ≤ n → rg S D X (i + 1 + m) 0 q = S 1 i + ((q : Int) - bq S i) := by
  intro m
  induction m with
  | zero => intro _; rw [Nat.add_zero, rg_s, if_pos ⟨q1, q2⟩, if_pos rfl]
  | succ m ih =>
    intro hm
    have b := bq_mo h (i + 1) m (by omega)
    have c := h i (by omega)
    have e := bq_s (S := S) (i := i)
    rw [show i + 1 + (m + 1) = (i + 1 + m) + 1 by omega, rg_s, if_neg (by omega), if_neg (by have := h (i + 1 + m) (by omega); omega)]
    exact ih (by omega)
theorem sd_L {R : Nat → Int} {k : Int} (so : sOk R) (h : snd9 R k = true) : LOK (rS (slL R k)) (rG (slL R k)) (rNp (slL R k)) (rNs (slL R k)).toNat ∧ (0 < rNp (slL R k) → rS (slL R k) 4 0 = 0) := by
  have a := sd_0 so h
  have b := sd_1 so h
  have g := rd_G a.1 a.2.1 a.2.2.1 a.2.2.2.1 a.2.2.2.2.1 a.2.2.2.2.2
  have I := b.1
  obtain ⟨i1, i2, i3, i4, i5, i6, i7⟩ := I
  have h23 : ∀ q, q < rNp (slL R k) → 0 ≤ rS (slL R k) 2 q ∧ 0 ≤ rS (slL R k) 3 q := fun q hq => ⟨(i7 q hq).1.2.1, (i7 q hq).1.2.2.1⟩
  have e4 : ∀ q, q < rNp (slL R k) → rS (slL R k) 4 q = bq (rS (slL R k)) q := by
    intro q
    induction q with
    | zero => intro hq; rw [i6 hq]; rfl
    | succ q ih =>
      intro hq
      have x := (i7 q (by omega)).2
      rw [if_pos hq] at x
      rw [← x, ih (by omega), bq_s]
      omega
  have gv := g.2.2.1
  refine ⟨⟨fun q hq => ?_, by have := b.2.2.2.1; omega, b.2.1, fun q hq => ⟨(gv.2 q hq).1.1, (gv.2 q hq).1.2, (gv.2 q hq).2⟩⟩, i6⟩
  have x := i7 q hq
  have y := x.2
  have z := b.2.2.2.2
  refine ⟨x.1.2.2.2.1, x.1.2.1, x.1.2.2.1, ?_, fun hq1 => ?_, fun i q1 q2 => ?_⟩
  · by_cases c : q + 1 < rNp (slL R k)
    · have x2 := (sd_2 so h hq).2.2.2.1
      rw [if_pos c] at y
      have y2 := (i7 (q + 1) c).2
      have mo := bq_mo h23 (q + 1) (rNp (slL R k) - (q + 1)) (by omega)
      have w1 := e4 (q + 1) c
      have lastq : rS (slL R k) 4 (rNp (slL R k) - 1) + rS (slL R k) 2 (rNp (slL R k) - 1) + rS (slL R k) 3 (rNp (slL R k) - 1) = rS (slL R k) 0 3 := by
        have y9 := (i7 (rNp (slL R k) - 1) (by omega)).2
        rw [if_neg (by omega)] at y9
        exact y9
      have w2 := e4 (rNp (slL R k) - 1) (by omega)
      have w3 := bq_s (S := rS (slL R k)) (i := rNp (slL R k) - 1)
      rw [show rNp (slL R k) - 1 + 1 = rNp (slL R k) by omega] at w3
      rw [show q + 1 + (rNp (slL R k) - (q + 1)) = rNp (slL R k) by omega] at mo
      omega
    · rw [if_neg c] at y
      have := b.2.2.2.1
      omega
  · rw [if_pos hq1] at y; exact y.symm
  · rw [e4 q hq] at q1 q2
    have r := rg_c (S := rS (slL R k)) (D := (r1 (slL R k)).2.2) (X := (r2 (slL R k)).2.2) h23 q1 q2 (rNp (slL R k) - (q + 1)) (by omega)
    rw [show q + 1 + (rNp (slL R k) - (q + 1)) = rNp (slL R k) by omega] at r
    show 0 ≤ rg (rS (slL R k)) (r1 (slL R k)).2.2 (r2 (slL R k)).2.2 (rNp (slL R k)) 0 i
    rw [r]
    have := x.1.1
    omega
def LTX (V : List Int) : List Int := lsT (rS V) (rG V) (rNp V)
def Ald (R : Nat → Int) (k : Int) : Int := if snd9 R k = true then ((LTX (slL R k)).length : Int) else -1
def Alg (R : Nat → Int) (k i : Int) : Int := if snd9 R k = true ∧ 0 ≤ i ∧ i < ((LTX (slL R k)).length : Int) then (LTX (slL R k)).getD i.toNat 0 else -1
def Dlisted (s : jH) (k : Int) : Int × jH := (Ald (s 390) k, s)
def Dlisting (s : jH) (k i : Int) : Int × jH := (Alg (s 390) k i, s)
theorem Ag.listed {s s' : jH} (h : Ag s s') (k : Int) : AgD (Dlisted s k) (Dlisted s' k) := AgD.rd h (by rw [h 390 (by decide)])
theorem Ag.listing {s s' : jH} (h : Ag s s') (k i : Int) : AgD (Dlisting s k i) (Dlisting s' k i) := AgD.rd h (by rw [h 390 (by decide)])
