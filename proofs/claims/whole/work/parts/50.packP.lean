/-! a patch packed, as a row of whole numbers alone -/
theorem gd_l {L N : List Int} {i : Nat} (h : i < L.length) : (L ++ N).getD i 0 = L.getD i 0 := by
  rw [List.getD_eq_getElem?_getD, List.getD_eq_getElem?_getD, List.getElem?_append_left h]
theorem gd_r {L N : List Int} {i : Nat} (h : L.length ≤ i) : (L ++ N).getD i 0 = N.getD (i - L.length) 0 := by
  rw [List.getD_eq_getElem?_getD, List.getD_eq_getElem?_getD, List.getElem?_append_right h]
theorem gd_s {L : List Int} {x : Int} : (L ++ [x]).getD L.length 0 = x := by rw [gd_r (Nat.le_refl _), Nat.sub_self]; rfl
theorem gd_mem {L : List Int} {i : Nat} (h : i < L.length) : L.getD i 0 ∈ L := by
  rw [List.getD_eq_getElem?_getD, List.getElem?_eq_getElem h]; exact List.getElem_mem h
theorem gd_ext {L N : List Int} (h : L.length = N.length) (e : ∀ i, i < L.length → L.getD i 0 = N.getD i 0) : L = N := by
  refine List.ext_getElem h (fun i h1 h2 => ?_)
  have := e i h1
  rw [List.getD_eq_getElem?_getD, List.getD_eq_getElem?_getD, List.getElem?_eq_getElem h1, List.getElem?_eq_getElem h2] at this
  exact this
def LB (L : List Int) : Prop := ∀ x, x ∈ L → byt x
theorem LB.app {L N : List Int} (h1 : LB L) (h2 : LB N) : LB (L ++ N) := fun x hx => by
  rcases List.mem_append.mp hx with c | c
  · exact h1 x c
  · exact h2 x c
theorem LB.one {x : Int} (h : byt x) : LB [x] := fun y hy => by rw [List.mem_singleton.mp hy]; exact h
theorem LB.nil : LB [] := fun y hy => absurd hy (List.not_mem_nil)
theorem LB.gd {L : List Int} (h : LB L) {i : Nat} (hi : i < L.length) : byt (L.getD i 0) := h _ (gd_mem hi)
def nm (v : Int) : List Int := if v < 128 then [v] else [128 + v % 128, v / 128]
theorem nm_1 {v : Int} (h : v < 128) : nm v = [v] := by rw [nm, if_pos h]
theorem nm_2 {v : Int} (h : ¬ v < 128) : nm v = [128 + v % 128] ++ [v / 128] := by rw [nm, if_neg h]; rfl
theorem nm_len {v : Int} : 1 ≤ (nm v).length ∧ (nm v).length ≤ 2 ∧ (v < 128 → (nm v).length = 1) := by
  by_cases c : v < 128
  · rw [nm_1 c]; exact ⟨Nat.le_refl _, by show 1 ≤ 2; omega, fun _ => rfl⟩
  · rw [nm_2 c]; exact ⟨by show 1 ≤ 2; omega, Nat.le_refl _, fun h => absurd h c⟩
theorem nm_B {v : Int} (h0 : 0 ≤ v) (h1 : v < 16384) : LB (nm v) := by
  by_cases c : v < 128
  · rw [nm_1 c]; exact LB.one ⟨by omega, by omega⟩
  · rw [nm_2 c]; exact (LB.one ⟨by omega, by omega⟩).app (LB.one ⟨by omega, by omega⟩)
def zz (s : Int) : Int := if s < 0 then -2 * s - 1 else 2 * s
/-- whether a spot goes on with the copy ahead; whether a part begins there -/
def gon (g : jH) (i : Nat) : Bool := decide (i ≠ 0 ∧ g 0 (i - 1) ≠ -1 ∧ g 0 i = g 0 (i - 1) + 1)
def bgn (g : jH) (i : Nat) : Bool := decide (i = 0 ∨ (g 0 i ≠ -1 ∧ gon g i = false))
def OGv (g : jH) (n : Nat) : Prop := n ≤ 64 ∧ ∀ i, i < n → (-1 ≤ g 0 i ∧ g 0 i ≤ 63) ∧ byt (g 1 i)
def ptn (g : jH) (n : Nat) : Int := sm (fun i => zb (bgn g i)) n
theorem gon_t {g : jH} {i : Nat} (h : gon g i = true) : i ≠ 0 ∧ g 0 (i - 1) ≠ -1 ∧ g 0 i = g 0 (i - 1) + 1 := of_decide_eq_true h
theorem gon_t' {g : jH} {i : Nat} (h : i ≠ 0 ∧ g 0 (i - 1) ≠ -1 ∧ g 0 i = g 0 (i - 1) + 1) : gon g i = true := decide_eq_true h
theorem gon_f {g : jH} {i : Nat} (h : ¬ (i ≠ 0 ∧ g 0 (i - 1) ≠ -1 ∧ g 0 i = g 0 (i - 1) + 1)) : gon g i = false := decide_eq_false h
theorem bgn_t' {g : jH} {i : Nat} (h : i = 0 ∨ (g 0 i ≠ -1 ∧ gon g i = false)) : bgn g i = true := decide_eq_true h
theorem bgn_f {g : jH} {i : Nat} (h : ¬ (i = 0 ∨ (g 0 i ≠ -1 ∧ gon g i = false))) : bgn g i = false := decide_eq_false h
theorem bgn_t {g : jH} {i : Nat} (h : bgn g i = true) : i = 0 ∨ (g 0 i ≠ -1 ∧ gon g i = false) := of_decide_eq_true h
theorem ptn_b {g : jH} (n : Nat) : 0 ≤ ptn g n ∧ ptn g n ≤ n := sm_b n (fun i _ => by have := zb_b (bgn g i); omega)
theorem ptn_s {g : jH} {n : Nat} : ptn g (n + 1) = ptn g n + zb (bgn g n) := rfl
def cpP (g : jH) (n i j : Nat) : Bool := decide (i + 1 + j < n) && gon g (i + 1 + j)
def cps (g : jH) (n i : Nat) : Nat := if g 0 i = -1 then 0 else fst (cpP g n i) 64 0 + 1
def exP (g : jH) (n i j : Nat) : Bool := decide (i + j < n) && decide (g 0 (i + j) = -1)
def exs (g : jH) (n i : Nat) : Nat := fst (exP g n i) 64 0
theorem cpP_t {g : jH} {n i j : Nat} (h : cpP g n i j = true) : i + 1 + j < n ∧ gon g (i + 1 + j) = true := by
  unfold cpP at h
  rw [Bool.and_eq_true] at h
  exact ⟨of_decide_eq_true h.1, h.2⟩
theorem cpP_t' {g : jH} {n i j : Nat} (h1 : i + 1 + j < n) (h2 : gon g (i + 1 + j) = true) : cpP g n i j = true := by rw [cpP, h2, decide_eq_true h1]; rfl
theorem cpP_f1 {g : jH} {n i j : Nat} (h : ¬ (i + 1 + j < n)) : cpP g n i j = false := by rw [cpP, decide_eq_false h]; rfl
theorem cpP_f2 {g : jH} {n i j : Nat} (h : gon g (i + 1 + j) = false) : cpP g n i j = false := by rw [cpP, h, Bool.and_false]
theorem exP_t {g : jH} {n i j : Nat} (h : exP g n i j = true) : i + j < n ∧ g 0 (i + j) = -1 := by
  unfold exP at h
  rw [Bool.and_eq_true] at h
  exact ⟨of_decide_eq_true h.1, of_decide_eq_true h.2⟩
theorem exP_t' {g : jH} {n i j : Nat} (h1 : i + j < n) (h2 : g 0 (i + j) = -1) : exP g n i j = true := by rw [exP, decide_eq_true h1, decide_eq_true h2]; rfl
theorem exP_f1 {g : jH} {n i j : Nat} (h : ¬ (i + j < n)) : exP g n i j = false := by rw [exP, decide_eq_false h]; rfl
theorem exP_f2 {g : jH} {n i j : Nat} (h : g 0 (i + j) ≠ -1) : exP g n i j = false := by rw [exP, decide_eq_false h, Bool.and_false]
/-- a copy's length: its places go on, it ends where they do not -/
theorem cps_s {g : jH} {n i : Nat} (n64 : n ≤ 64) (hi : i < n) (h : g 0 i ≠ -1) : 1 ≤ cps g n i ∧ i + cps g n i ≤ n ∧ (∀ j, 0 < j → j < cps g n i → gon g (i + j) = true) ∧ (i + cps g n i < n → gon g (i + cps g n i) = false) := by
  obtain ⟨a, b, c, d⟩ := fst_spec (cpP g n i) 64 0
  have e : cps g n i = fst (cpP g n i) 64 0 + 1 := by rw [cps, if_neg h]
  generalize fst (cpP g n i) 64 0 = m at a b c d e
  rw [e]
  refine ⟨by omega, ?_, fun j j0 j1 => ?_, fun h1 => ?_⟩
  · by_cases z : m = 0
    · omega
    · have := (cpP_t (c (m - 1) (by omega) (by omega))).1; omega
  · have := (cpP_t (c (j - 1) (by omega) (by omega))).2
    rwa [show i + 1 + (j - 1) = i + j by omega] at this
  · cases z : gon g (i + (m + 1)) with
    | false => rfl
    | true =>
      have := cpP_t' (g := g) (n := n) (i := i) (j := m) (by omega) (by rwa [show i + 1 + m = i + (m + 1) by omega])
      rw [d (by omega)] at this
      exact absurd this (by decide)
theorem cps_pl {g : jH} {n i : Nat} (n64 : n ≤ 64) (hi : i < n) (h : g 0 i ≠ -1) : ∀ j, j < cps g n i → g 0 (i + j) = g 0 i + j := by
  obtain ⟨a, b, c, d⟩ := cps_s n64 hi h
  intro j
  induction j with
  | zero => intro _; simp
  | succ j ih =>
    intro hj
    have e := ih (by omega)
    have f := gon_t (c (j + 1) (by omega) hj)
    rw [show i + (j + 1) - 1 = i + j by omega] at f
    omega
theorem cps_0 {g : jH} {n i : Nat} (h : g 0 i = -1) : cps g n i = 0 := by rw [cps, if_pos h]
theorem exs_s {g : jH} {n i : Nat} (n64 : n ≤ 64) (hi : i ≤ n) : i + exs g n i ≤ n ∧ (∀ j, j < exs g n i → g 0 (i + j) = -1) ∧ (i + exs g n i < n → g 0 (i + exs g n i) ≠ -1) := by
  obtain ⟨a, b, c, d⟩ := fst_spec (exP g n i) 64 0
  have e : exs g n i = fst (exP g n i) 64 0 := rfl
  generalize fst (exP g n i) 64 0 = m at a b c d e
  rw [e]
  refine ⟨?_, fun j j1 => (exP_t (c j (by omega) j1)).2, fun h1 h2 => ?_⟩
  · by_cases z : m = 0
    · omega
    · have := (exP_t (c (m - 1) (by omega) (by omega))).1; omega
  · have := exP_t' (g := g) (n := n) (i := i) (j := m) h1 h2
    rw [d (by omega)] at this
    exact absurd this (by decide)
/-- behind a part the next begins; within it none does -/
theorem part_s {g : jH} {n i : Nat} (n64 : n ≤ 64) (hi : i < n) (hb : bgn g i = true) : 1 ≤ cps g n i + exs g n (i + cps g n i) ∧ i + cps g n i + exs g n (i + cps g n i) ≤ n ∧ (∀ j, i < j → j < i + cps g n i + exs g n (i + cps g n i) → bgn g j = false) ∧ (i + cps g n i + exs g n (i + cps g n i) < n → bgn g (i + cps g n i + exs g n (i + cps g n i)) = true) := by
  by_cases h : g 0 i = -1
  · have c0 : cps g n i = 0 := cps_0 h
    rw [c0, Nat.add_zero, Nat.zero_add]
    obtain ⟨a, b, c⟩ := exs_s (g := g) n64 (show i ≤ n by omega)
    have e1 : 1 ≤ exs g n i := by
      by_cases z : exs g n i = 0
      · rw [z, Nat.add_zero] at c; exact (c hi h).elim
      · omega
    refine ⟨e1, a, fun j j1 j2 => ?_, fun h1 => ?_⟩
    · have := b (j - i) (by omega)
      rw [show i + (j - i) = j by omega] at this
      exact bgn_f (by omega)
    · refine bgn_t' (Or.inr ⟨c h1, gon_f (fun q => ?_)⟩)
      have := b (exs g n i - 1) (by omega)
      rw [show i + exs g n i - 1 = i + (exs g n i - 1) by omega] at q
      omega
  · obtain ⟨p, q, r, s⟩ := cps_s n64 hi h
    generalize hc : cps g n i = k at p q r s
    obtain ⟨a, b, c⟩ := exs_s (g := g) n64 q
    refine ⟨by omega, a, fun j j1 j2 => ?_, fun h1 => ?_⟩
    · by_cases z : j < i + k
      · have := r (j - i) (by omega) (by omega)
        rw [show i + (j - i) = j by omega] at this
        refine bgn_f (fun w => ?_)
        rcases w with w | w
        · omega
        · rw [this] at w; exact absurd w.2 (by decide)
      · have := b (j - (i + k)) (by omega)
        rw [show i + k + (j - (i + k)) = j by omega] at this
        exact bgn_f (by omega)
    · refine bgn_t' (Or.inr ⟨c h1, ?_⟩)
      by_cases z : exs g n (i + k) = 0
      · rw [z, Nat.add_zero] at h1 ⊢; exact s h1
      · refine gon_f (fun w => ?_)
        have := b (exs g n (i + k) - 1) (by omega)
        rw [show i + k + exs g n (i + k) - 1 = i + k + (exs g n (i + k) - 1) by omega] at w
        omega
def ppF (g : jH) (n : Nat) (L0 : List Int) : Nat → List Int × Int
  | 0 => (L0, 0)
  | i + 1 => bif bgn g i then ((ppF g n L0 i).1 ++ nm (zz (if cps g n i = 0 then 0 else g 0 i - (ppF g n L0 i).2)) ++ nm (cps g n i : Int) ++ nm (exs g n (i + cps g n i) : Int), if cps g n i = 0 then 0 else g 0 i + (cps g n i : Int)) else ppF g n L0 i
theorem ppF_t {g : jH} {n : Nat} {L0 : List Int} {i : Nat} (h : bgn g i = true) : ppF g n L0 (i + 1) = ((ppF g n L0 i).1 ++ nm (zz (if cps g n i = 0 then 0 else g 0 i - (ppF g n L0 i).2)) ++ nm (cps g n i : Int) ++ nm (exs g n (i + cps g n i) : Int), if cps g n i = 0 then 0 else g 0 i + (cps g n i : Int)) := by rw [ppF, h]; rfl
theorem ppF_f {g : jH} {n : Nat} {L0 : List Int} {i : Nat} (h : bgn g i = false) : ppF g n L0 (i + 1) = ppF g n L0 i := by rw [ppF, h]; rfl
theorem cps_b {g : jH} {n i : Nat} (hv : OGv g n) (hi : i < n) : cps g n i ≤ 64 ∧ i + cps g n i ≤ n ∧ (cps g n i ≠ 0 → 0 ≤ g 0 i ∧ g 0 i + cps g n i ≤ 64) ∧ (cps g n i = 0 → g 0 i = -1) := by
  have n64 := hv.1
  by_cases h : g 0 i = -1
  · rw [cps_0 h]; exact ⟨by omega, by omega, fun z => absurd rfl z, fun _ => h⟩
  · obtain ⟨p, q, r, s⟩ := cps_s n64 hi h
    have e := cps_pl n64 hi h (cps g n i - 1) (by omega)
    have b1 := (hv.2 i hi).1
    have b2 := (hv.2 (i + (cps g n i - 1)) (by omega)).1
    exact ⟨by omega, q, fun _ => by omega, fun z => by omega⟩
theorem ppF_b {g : jH} {n : Nat} {L0 : List Int} (hv : OGv g n) : ∀ i, i ≤ n → (0 ≤ (ppF g n L0 i).2 ∧ (ppF g n L0 i).2 ≤ 64) ∧ ((ppF g n L0 i).1.length : Int) = L0.length + 3 * ptn g i ∧ (LB L0 → LB (ppF g n L0 i).1) := by
  have n64 := hv.1
  intro i
  induction i with
  | zero => intro _; exact ⟨⟨Int.le_refl _, by show (0 : Int) ≤ 64; omega⟩, by show (L0.length : Int) = L0.length + 3 * 0; omega, fun h => h⟩
  | succ i ih =>
    intro hi
    obtain ⟨a, b, c⟩ := ih (by omega)
    cases e : bgn g i with
    | false => rw [ppF_f e, ptn_s, zb_f e]; exact ⟨a, by omega, c⟩
    | true =>
      rw [ppF_t e, ptn_s, zb_t e]
      obtain ⟨p, q, r, r0⟩ := cps_b hv (show i < n by omega)
      have x := (exs_s (g := g) (n := n) (i := i + cps g n i) n64 q).1
      generalize (ppF g n L0 i).2 = bh at a
      generalize (ppF g n L0 i).1 = L at b c
      generalize gc : cps g n i = k at p q r r0 x
      generalize ge : exs g n (i + k) = y at x
      have zb9 : 0 ≤ zz (if k = 0 then 0 else g 0 i - bh) ∧ zz (if k = 0 then 0 else g 0 i - bh) < 128 := by
        rw [zz]
        by_cases z : k = 0
        · rw [if_pos z]; omega
        · rw [if_neg z]; have := r z; have := (hv.2 i (by omega)).1; split <;> omega
      have l1 := (nm_len (v := zz (if k = 0 then 0 else g 0 i - bh))).2.2 zb9.2
      have l2 := (nm_len (v := (k : Int))).2.2 (by omega)
      have l3 := (nm_len (v := (y : Int))).2.2 (by omega)
      refine ⟨?_, ?_, fun hL => ?_⟩
      · show 0 ≤ (if k = 0 then (0 : Int) else g 0 i + (k : Int)) ∧ (if k = 0 then (0 : Int) else g 0 i + (k : Int)) ≤ 64
        by_cases z : k = 0
        · rw [if_pos z]; omega
        · rw [if_neg z]; have := r z; omega
      · show ((L ++ nm (zz (if k = 0 then 0 else g 0 i - bh)) ++ nm (k : Int) ++ nm (y : Int)).length : Int) = _
        rw [List.length_append, List.length_append, List.length_append, l1, l2, l3]; omega
      · exact (((c hL).app (nm_B zb9.1 (by omega))).app (nm_B (by omega) (by omega))).app (nm_B (by omega) (by omega))
theorem ppF_skip {g : jH} {n : Nat} {L0 : List Int} {i : Nat} : ∀ k, (∀ j, i ≤ j → j < i + k → bgn g j = false) → ppF g n L0 (i + k) = ppF g n L0 i := by
  intro k
  induction k with
  | zero => intro _; rfl
  | succ k ih => intro h; rw [show i + (k + 1) = i + k + 1 by omega, ppF_f (h (i + k) (by omega) (by omega))]; exact ih (fun j j1 j2 => h j j1 (by omega))
def vls (g : jH) (e : Bool) : Nat → List Int
  | 0 => []
  | i + 1 => if decide (g 0 i = -1) = e then vls g e i ++ [g 1 i] else vls g e i
theorem vls_b {g : jH} {n : Nat} (hv : OGv g n) : ∀ i, i ≤ n → (vls g false i).length + (vls g true i).length = i ∧ LB (vls g false i) ∧ LB (vls g true i) := by
  intro i
  induction i with
  | zero => intro _; exact ⟨rfl, LB.nil, LB.nil⟩
  | succ i ih =>
    intro hi
    obtain ⟨a, b, c⟩ := ih (by omega)
    have y := (hv.2 i (by omega)).2
    rw [vls, vls]
    by_cases e : g 0 i = -1
    · rw [decide_eq_true e, if_neg (by decide), if_pos rfl, List.length_append]
      exact ⟨by show _ + (_ + 1) = _; omega, b, c.app (LB.one y)⟩
    · rw [decide_eq_false e, if_pos rfl, if_neg (by decide), List.length_append]
      exact ⟨by show _ + 1 + _ = _; omega, b.app (LB.one y), c⟩
def slc (V : List Int) (k : Nat) : Nat → List Int
  | 0 => []
  | m + 1 => slc V k m ++ [V.getD (k + m) 0]
theorem slc_len {V : List Int} {k : Nat} : ∀ m, (slc V k m).length = m := by
  intro m
  induction m with
  | zero => rfl
  | succ m ih => rw [slc, List.length_append, ih]; rfl
theorem slc_B {V : List Int} {k : Nat} (hV : LB V) : ∀ m, k + m ≤ V.length → LB (slc V k m) := by
  intro m
  induction m with
  | zero => intro _; exact LB.nil
  | succ m ih => intro h; rw [slc]; exact (ih (by omega)).app (LB.one (hV.gd (by omega)))
theorem slc_gd {V : List Int} {k : Nat} : ∀ m i, i < m → (slc V k m).getD i 0 = V.getD (k + i) 0 := by
  intro m
  induction m with
  | zero => intro i hi; omega
  | succ m ih =>
    intro i hi
    rw [slc]
    by_cases c : i = m
    · subst c
      have := gd_s (L := slc V k i) (x := V.getD (k + i) 0)
      rwa [slc_len] at this
    · rw [gd_l (by rw [slc_len]; omega)]; exact ih i (by omega)
theorem slc_all (V : List Int) : slc V 0 V.length = V := gd_ext (slc_len _) (fun i hi => by rw [slc_len] at hi; rw [slc_gd _ i hi, Nat.zero_add])
def zrP (V : List Int) (k i : Nat) : Bool := decide (k + i < V.length ∧ V.getD (k + i) 0 = 0)
def orP (V : List Int) (k i : Nat) : Bool := decide (k + i < V.length ∧ V.getD (k + i) 0 ≠ 0)
def srP (V : List Int) (k i : Nat) : Bool := decide (k + i < V.length ∧ V.getD (k + i) 0 = V.getD k 0)
def zrn (V : List Int) (k : Nat) : Nat := fst (zrP V k) 64 0
def orn (V : List Int) (k : Nat) : Nat := fst (orP V k) 64 0
def srn (V : List Int) (k : Nat) : Nat := fst (srP V k) 64 0
theorem run_s {V : List Int} {k : Nat} {P : Nat → Bool} (v64 : V.length ≤ 64) (hk : k ≤ V.length) (hP : ∀ i, P i = true → k + i < V.length) : k + fst P 64 0 ≤ V.length ∧ (∀ i, i < fst P 64 0 → P i = true) ∧ (k + fst P 64 0 < V.length → P (fst P 64 0) = false) := by
  obtain ⟨a, b, c, d⟩ := fst_spec P 64 0
  refine ⟨?_, fun i hi => c i (by omega) hi, fun h => ?_⟩
  · by_cases z : fst P 64 0 = 0
    · omega
    · have := hP _ (c (fst P 64 0 - 1) (by omega) (by omega)); omega
  · by_cases z : fst P 64 0 < 0 + 64
    · exact d z
    · omega
theorem zrn_s {V : List Int} {k : Nat} (v64 : V.length ≤ 64) (hk : k ≤ V.length) : k + zrn V k ≤ V.length ∧ (∀ i, i < zrn V k → zrP V k i = true) ∧ (k + zrn V k < V.length → zrP V k (zrn V k) = false) := run_s v64 hk (fun i h => (of_decide_eq_true h).1)
theorem orn_s {V : List Int} {k : Nat} (v64 : V.length ≤ 64) (hk : k ≤ V.length) : k + orn V k ≤ V.length ∧ (∀ i, i < orn V k → orP V k i = true) ∧ (k + orn V k < V.length → orP V k (orn V k) = false) := run_s v64 hk (fun i h => (of_decide_eq_true h).1)
theorem srn_s {V : List Int} {k : Nat} (v64 : V.length ≤ 64) (hk : k ≤ V.length) : k + srn V k ≤ V.length ∧ (∀ i, i < srn V k → srP V k i = true) ∧ (k + srn V k < V.length → srP V k (srn V k) = false) := run_s v64 hk (fun i h => (of_decide_eq_true h).1)
theorem orn_1 {V : List Int} {k : Nat} (v64 : V.length ≤ 64) (hk : k + zrn V k < V.length) : 1 ≤ orn V (k + zrn V k) := by
  have a := (zrn_s v64 (show k ≤ V.length by omega)).2.2 hk
  by_cases z : orn V (k + zrn V k) = 0
  · have b := (orn_s v64 (show k + zrn V k ≤ V.length by omega)).2.2
    rw [z, Nat.add_zero] at b
    have c := of_decide_eq_false (b hk)
    have d := of_decide_eq_false a
    rw [Nat.add_zero] at c
    exact (c ⟨hk, fun e => d ⟨hk, e⟩⟩).elim
  · omega
theorem srn_1 {V : List Int} {k : Nat} (v64 : V.length ≤ 64) (hk : k < V.length) : 1 ≤ srn V k := by
  by_cases z : srn V k = 0
  · have b := (srn_s v64 (show k ≤ V.length by omega)).2.2
    rw [z, Nat.add_zero] at b
    have c := of_decide_eq_false (b hk)
    rw [Nat.add_zero] at c
    exact (c ⟨hk, rfl⟩).elim
  · omega
/-- one round of the second way, one of the third -/
def zrS (V : List Int) (k : Nat) (L : List Int) : List Int := L ++ nm (zrn V k : Int) ++ (if 0 < orn V (k + zrn V k) then nm (orn V (k + zrn V k) : Int) else []) ++ slc V (k + zrn V k) (orn V (k + zrn V k))
def zrA (V : List Int) : Nat → Nat → List Int → List Int
  | 0, _, L => L
  | f + 1, k, L => if k < V.length then zrA V f (k + zrn V k + orn V (k + zrn V k)) (zrS V k L) else L
def rnS (V : List Int) (k : Nat) (L : List Int) : List Int := L ++ nm (srn V k : Int) ++ [V.getD k 0]
def rnA (V : List Int) : Nat → Nat → List Int → List Int
  | 0, _, L => L
  | f + 1, k, L => if k < V.length then rnA V f (k + srn V k) (rnS V k L) else L
theorem zrS_app {V : List Int} {k : Nat} {L N : List Int} : zrS V k (L ++ N) = L ++ zrS V k N := by simp only [zrS, List.append_assoc]
theorem rnS_app {V : List Int} {k : Nat} {L N : List Int} : rnS V k (L ++ N) = L ++ rnS V k N := by simp only [rnS, List.append_assoc]
theorem zrA_app {V : List Int} {L : List Int} : ∀ f k N, zrA V f k (L ++ N) = L ++ zrA V f k N := by
  intro f
  induction f with
  | zero => intro k N; rfl
  | succ f ih =>
    intro k N
    rw [zrA, zrA]
    split
    · rw [zrS_app]; exact ih _ _
    · rfl
theorem rnA_app {V : List Int} {L : List Int} : ∀ f k N, rnA V f k (L ++ N) = L ++ rnA V f k N := by
  intro f
  induction f with
  | zero => intro k N; rfl
  | succ f ih =>
    intro k N
    rw [rnA, rnA]
    split
    · rw [rnS_app]; exact ih _ _
    · rfl
theorem zrA_end {V : List Int} {f k : Nat} {L : List Int} (h : V.length ≤ k) : zrA V f k L = L := by
  cases f with
  | zero => rfl
  | succ f => rw [zrA, if_neg (by omega)]
theorem rnA_end {V : List Int} {f k : Nat} {L : List Int} (h : V.length ≤ k) : rnA V f k L = L := by
  cases f with
  | zero => rfl
  | succ f => rw [rnA, if_neg (by omega)]
/-- how long a round's bytes are, and that they are bytes -/
theorem zrS_b {V : List Int} {k : Nat} {L : List Int} (v64 : V.length ≤ 64) (hk : k < V.length) (hV : LB V) : (zrS V k L).length ≤ L.length + 3 * (zrn V k + orn V (k + zrn V k)) ∧ (LB L → LB (zrS V k L)) ∧ 1 ≤ zrn V k + orn V (k + zrn V k) ∧ k + zrn V k + orn V (k + zrn V k) ≤ V.length := by
  obtain ⟨a, _, _⟩ := zrn_s v64 (show k ≤ V.length by omega)
  obtain ⟨b, _, _⟩ := orn_s v64 a
  have c : k + zrn V k < V.length → 1 ≤ orn V (k + zrn V k) := fun h => orn_1 v64 h
  have l1 := (nm_len (v := (zrn V k : Int))).2.2 (by omega)
  have l2 := (nm_len (v := (orn V (k + zrn V k) : Int))).2.2 (by omega)
  have B1 := nm_B (v := (zrn V k : Int)) (by omega) (by omega)
  have B2 := nm_B (v := (orn V (k + zrn V k) : Int)) (by omega) (by omega)
  have B3 := slc_B (k := k + zrn V k) hV (orn V (k + zrn V k)) b
  refine ⟨?_, fun hL => ?_, by omega, b⟩
  · rw [zrS, List.length_append, List.length_append, List.length_append, l1, slc_len]
    by_cases d : 0 < orn V (k + zrn V k)
    · rw [if_pos d, l2]; omega
    · rw [if_neg d]; show L.length + 1 + 0 + _ ≤ _; omega
  · rw [zrS]
    refine ((hL.app B1).app ?_).app B3
    split
    · exact B2
    · exact LB.nil
theorem rnS_b {V : List Int} {k : Nat} {L : List Int} (v64 : V.length ≤ 64) (hk : k < V.length) (hV : LB V) : (rnS V k L).length ≤ L.length + 3 * srn V k ∧ (LB L → LB (rnS V k L)) ∧ 1 ≤ srn V k ∧ k + srn V k ≤ V.length := by
  obtain ⟨a, _, _⟩ := srn_s v64 (show k ≤ V.length by omega)
  have c := srn_1 v64 hk
  have l1 := (nm_len (v := (srn V k : Int))).2.2 (by omega)
  have B1 := nm_B (v := (srn V k : Int)) (by omega) (by omega)
  refine ⟨?_, fun hL => (hL.app B1).app (LB.one (hV.gd hk)), c, a⟩
  rw [rnS, List.length_append, List.length_append, l1]
  show L.length + 1 + 1 ≤ _
  omega
theorem zrA_b {V : List Int} (v64 : V.length ≤ 64) (hV : LB V) : ∀ f k L, k ≤ V.length → L.length ≤ 1 + 3 * k → LB L → (zrA V f k L).length ≤ 193 ∧ LB (zrA V f k L) := by
  intro f
  induction f with
  | zero => intro k L hk h1 h2; exact ⟨by rw [zrA]; omega, h2⟩
  | succ f ih =>
    intro k L hk h1 h2
    rw [zrA]
    by_cases c : k < V.length
    · rw [if_pos c]
      obtain ⟨a, b, _, e⟩ := zrS_b (L := L) v64 c hV
      exact ih _ _ e (by omega) (b h2)
    · rw [if_neg c]; exact ⟨by omega, h2⟩
theorem rnA_b {V : List Int} (v64 : V.length ≤ 64) (hV : LB V) : ∀ f k L, k ≤ V.length → L.length ≤ 1 + 3 * k → LB L → (rnA V f k L).length ≤ 193 ∧ LB (rnA V f k L) := by
  intro f
  induction f with
  | zero => intro k L hk h1 h2; exact ⟨by rw [rnA]; omega, h2⟩
  | succ f ih =>
    intro k L hk h1 h2
    rw [rnA]
    by_cases c : k < V.length
    · rw [if_pos c]
      obtain ⟨a, b, _, e⟩ := rnS_b (L := L) v64 c hV
      exact ih _ _ e (by omega) (b h2)
    · rw [if_neg c]; exact ⟨by omega, h2⟩
def pk0 (V : List Int) : List Int := [0] ++ slc V 0 V.length
def pk1 (V : List Int) : List Int := zrA V V.length 0 [1]
def pk2 (V : List Int) : List Int := rnA V V.length 0 [2]
def pkA (V : List Int) : List Int := if (pk1 V).length < (pk0 V).length then pk1 V else pk0 V
def pkb (V : List Int) : List Int := if (pk2 V).length < (pkA V).length then pk2 V else pkA V
theorem pk0_b {V : List Int} (hV : LB V) : (pk0 V).length = 1 + V.length ∧ LB (pk0 V) := ⟨by rw [pk0, List.length_append, slc_len]; rfl, (LB.one ⟨by omega, by omega⟩).app (slc_B hV _ (by omega))⟩
theorem pk1_b {V : List Int} (v64 : V.length ≤ 64) (hV : LB V) : (pk1 V).length ≤ 193 ∧ LB (pk1 V) := zrA_b v64 hV _ _ _ (by omega) (Nat.le_refl _) (LB.one ⟨by omega, by omega⟩)
theorem pk2_b {V : List Int} (v64 : V.length ≤ 64) (hV : LB V) : (pk2 V).length ≤ 193 ∧ LB (pk2 V) := rnA_b v64 hV _ _ _ (by omega) (Nat.le_refl _) (LB.one ⟨by omega, by omega⟩)
theorem pkb_b {V : List Int} (v64 : V.length ≤ 64) (hV : LB V) : (pkb V).length ≤ 1 + V.length ∧ LB (pkb V) ∧ (pkA V).length ≤ 1 + V.length ∧ LB (pkA V) := by
  have a := pk0_b hV
  have b := pk1_b v64 hV
  have c := pk2_b v64 hV
  have d : (pkA V).length ≤ 1 + V.length ∧ LB (pkA V) := by
    rw [pkA]
    split
    · exact ⟨by omega, b.2⟩
    · exact ⟨by omega, a.2⟩
  refine ⟨?_, ?_, d⟩
  · rw [pkb]
    split
    · omega
    · exact d.1
  · rw [pkb]
    split
    · exact c.2
    · exact d.2
def pkh (g : jH) (n : Nat) (os oc nc : Int) : List Int := nm os ++ nm oc ++ nm (n : Int) ++ nm nc ++ nm (ptn g n)
def pkp (g : jH) (n : Nat) (os oc nc : Int) : List Int := (ppF g n (pkh g n os oc nc) n).1
def pkr (g : jH) (n : Nat) (os oc nc : Int) : List Int := pkp g n os oc nc ++ pkb (vls g false n) ++ pkb (vls g true n)
def ckL (L : List Int) : Int := ckF (fun i => L.getD i 0) L.length
def PKL (g : jH) (n : Nat) (os oc nc : Int) : List Int := pkr g n os oc nc ++ [ckL (pkr g n os oc nc) / 256] ++ [ckL (pkr g n os oc nc) % 256]
theorem pk_b {g : jH} {n : Nat} {os oc nc : Int} (hv : OGv g n) (o1 : 0 ≤ os ∧ os ≤ 64) (o2 : 0 ≤ oc ∧ oc < 16384) (o3 : 0 ≤ nc ∧ nc < 16384) : ((pkh g n os oc nc).length ≤ 7 ∧ LB (pkh g n os oc nc)) ∧ ((pkp g n os oc nc).length ≤ 199 ∧ LB (pkp g n os oc nc)) ∧ (pkr g n os oc nc).length ≤ 265 ∧ LB (pkr g n os oc nc) ∧ 2 ≤ (PKL g n os oc nc).length ∧ (PKL g n os oc nc).length ≤ 267 ∧ LB (PKL g n os oc nc) := by
  have n64 := hv.1
  have pb := ptn_b (g := g) n
  have l1 := (nm_len (v := os)).2.2 (by omega)
  have l2 := (nm_len (v := oc)).2.1
  have l3 := (nm_len (v := (n : Int))).2.2 (by omega)
  have l4 := (nm_len (v := nc)).2.1
  have l5 := (nm_len (v := ptn g n)).2.2 (by omega)
  have hl : (pkh g n os oc nc).length ≤ 7 := by
    rw [pkh, List.length_append, List.length_append, List.length_append, List.length_append]; omega
  have hB : LB (pkh g n os oc nc) := ((((nm_B o1.1 (by omega)).app (nm_B o2.1 o2.2)).app (nm_B (by omega) (by omega))).app (nm_B o3.1 o3.2)).app (nm_B pb.1 (by omega))
  have p := ppF_b (L0 := pkh g n os oc nc) hv n (Nat.le_refl _)
  have pl : (pkp g n os oc nc).length ≤ 199 := by have := p.2.1; unfold pkp; omega
  have pB : LB (pkp g n os oc nc) := p.2.2 hB
  have v := vls_b hv n (Nat.le_refl _)
  have q1 := pkb_b (V := vls g false n) (by omega) v.2.1
  have q2 := pkb_b (V := vls g true n) (by omega) v.2.2
  have rl : (pkr g n os oc nc).length ≤ 265 := by rw [pkr, List.length_append, List.length_append]; omega
  have rB : LB (pkr g n os oc nc) := (pB.app q1.2.1).app q2.2.1
  have cb := ckF_b (fun i => (pkr g n os oc nc).getD i 0) (pkr g n os oc nc).length
  have cb2 : 0 ≤ ckL (pkr g n os oc nc) ∧ ckL (pkr g n os oc nc) < 257 := cb
  refine ⟨⟨hl, hB⟩, ⟨pl, pB⟩, rl, rB, ?_, ?_, ?_⟩
  · rw [PKL, List.length_append, List.length_append]; show 2 ≤ _ + 1 + 1; omega
  · rw [PKL, List.length_append, List.length_append]; show _ + 1 + 1 ≤ 267; omega
  · exact (rB.app (LB.one ⟨by omega, by omega⟩)).app (LB.one ⟨by omega, by omega⟩)
