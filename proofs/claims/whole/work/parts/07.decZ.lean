/-- the whole check of an instruction -/
theorem jdecA {j pc : Nat} {q : jIt} (h : jIns j pc = some q) : j < 360 ∧ pc < jZ j ∧ jIr j pc = some q := by
  unfold jIns at h
  cases hb : (Nat.blt j jN && Nat.blt pc (jZ j)) with
  | false => rw [hb] at h; cases h
  | true =>
    rw [hb] at h
    simp only [Bool.and_eq_true] at hb
    exact ⟨Nat.le_of_ble_eq_true hb.1, Nat.le_of_ble_eq_true hb.2, h⟩
theorem jchk1_spec {j pc : Nat} {f : Nat → Option jIt} {c : ByteArray} {q : jIt} (h : jchk1 j f c pc = true) (hq : f pc = some q) : decode c pc = .ok (q.1, q.2.1) ∧ jok j q = true := by
  unfold jchk1 at h
  rw [hq] at h
  simpa using h
theorem jchkR_spec {a n j : Nat} (h : jchkR a n = true) (h1 : a ≤ j) (h2 : j < a + n) : jchk j = true := by
  have h3 := List.all_eq_true.mp h (j - a) (List.mem_range.mpr (by omega))
  rwa [show a + (j - a) = j by omega] at h3

theorem jchk_lt {j : Nat} (h : j < 359) : jchk j = true := by
  rcases Nat.lt_or_ge j 10 with h9 | h9
  · exact jchkR_spec jch_0 (by omega) (by omega)
  rcases Nat.lt_or_ge j 20 with h9 | h9
  · exact jchkR_spec jch_10 (by omega) (by omega)
  rcases Nat.lt_or_ge j 30 with h9 | h9
  · exact jchkR_spec jch_20 (by omega) (by omega)
  rcases Nat.lt_or_ge j 40 with h9 | h9
  · exact jchkR_spec jch_30 (by omega) (by omega)
  rcases Nat.lt_or_ge j 50 with h9 | h9
  · exact jchkR_spec jch_40 (by omega) (by omega)
  rcases Nat.lt_or_ge j 60 with h9 | h9
  · exact jchkR_spec jch_50 (by omega) (by omega)
  rcases Nat.lt_or_ge j 70 with h9 | h9
  · exact jchkR_spec jch_60 (by omega) (by omega)
  rcases Nat.lt_or_ge j 80 with h9 | h9
  · exact jchkR_spec jch_70 (by omega) (by omega)
  rcases Nat.lt_or_ge j 90 with h9 | h9
  · exact jchkR_spec jch_80 (by omega) (by omega)
  rcases Nat.lt_or_ge j 100 with h9 | h9
  · exact jchkR_spec jch_90 (by omega) (by omega)
  rcases Nat.lt_or_ge j 110 with h9 | h9
  · exact jchkR_spec jch_100 (by omega) (by omega)
  rcases Nat.lt_or_ge j 120 with h9 | h9
  · exact jchkR_spec jch_110 (by omega) (by omega)
  rcases Nat.lt_or_ge j 130 with h9 | h9
  · exact jchkR_spec jch_120 (by omega) (by omega)
  rcases Nat.lt_or_ge j 140 with h9 | h9
  · exact jchkR_spec jch_130 (by omega) (by omega)
  rcases Nat.lt_or_ge j 150 with h9 | h9
  · exact jchkR_spec jch_140 (by omega) (by omega)
  rcases Nat.lt_or_ge j 160 with h9 | h9
  · exact jchkR_spec jch_150 (by omega) (by omega)
  rcases Nat.lt_or_ge j 170 with h9 | h9
  · exact jchkR_spec jch_160 (by omega) (by omega)
  rcases Nat.lt_or_ge j 180 with h9 | h9
  · exact jchkR_spec jch_170 (by omega) (by omega)
  rcases Nat.lt_or_ge j 190 with h9 | h9
  · exact jchkR_spec jch_180 (by omega) (by omega)
  rcases Nat.lt_or_ge j 200 with h9 | h9
  · exact jchkR_spec jch_190 (by omega) (by omega)
  rcases Nat.lt_or_ge j 210 with h9 | h9
  · exact jchkR_spec jch_200 (by omega) (by omega)
  rcases Nat.lt_or_ge j 220 with h9 | h9
  · exact jchkR_spec jch_210 (by omega) (by omega)
  rcases Nat.lt_or_ge j 230 with h9 | h9
  · exact jchkR_spec jch_220 (by omega) (by omega)
  rcases Nat.lt_or_ge j 240 with h9 | h9
  · exact jchkR_spec jch_230 (by omega) (by omega)
  rcases Nat.lt_or_ge j 250 with h9 | h9
  · exact jchkR_spec jch_240 (by omega) (by omega)
  rcases Nat.lt_or_ge j 260 with h9 | h9
  · exact jchkR_spec jch_250 (by omega) (by omega)
  rcases Nat.lt_or_ge j 270 with h9 | h9
  · exact jchkR_spec jch_260 (by omega) (by omega)
  rcases Nat.lt_or_ge j 280 with h9 | h9
  · exact jchkR_spec jch_270 (by omega) (by omega)
  rcases Nat.lt_or_ge j 290 with h9 | h9
  · exact jchkR_spec jch_280 (by omega) (by omega)
  rcases Nat.lt_or_ge j 300 with h9 | h9
  · exact jchkR_spec jch_290 (by omega) (by omega)
  rcases Nat.lt_or_ge j 310 with h9 | h9
  · exact jchkR_spec jch_300 (by omega) (by omega)
  rcases Nat.lt_or_ge j 320 with h9 | h9
  · exact jchkR_spec jch_310 (by omega) (by omega)
  rcases Nat.lt_or_ge j 330 with h9 | h9
  · exact jchkR_spec jch_320 (by omega) (by omega)
  rcases Nat.lt_or_ge j 340 with h9 | h9
  · exact jchkR_spec jch_330 (by omega) (by omega)
  rcases Nat.lt_or_ge j 350 with h9 | h9
  · exact jchkR_spec jch_340 (by omega) (by omega)
  exact jchkR_spec jch_350 (by omega) (by omega)
theorem jcl_spec {a n pc : Nat} (h : (List.range n).all (fun i => jchk1 359 jI359 code (a + i)) = true) (h1 : a ≤ pc) (h2 : pc < a + n) : jchk1 359 jI359 code pc = true := by
  have h3 := List.all_eq_true.mp h (pc - a) (List.mem_range.mpr (by omega))
  rwa [show a + (pc - a) = pc by omega] at h3
theorem jcl_lt {pc : Nat} (h : pc < 1687) : jchk1 359 jI359 code pc = true := by
  rcases Nat.lt_or_ge pc 100 with h9 | h9
  · exact jcl_spec jcl_0 (by omega) (by omega)
  rcases Nat.lt_or_ge pc 200 with h9 | h9
  · exact jcl_spec jcl_100 (by omega) (by omega)
  rcases Nat.lt_or_ge pc 300 with h9 | h9
  · exact jcl_spec jcl_200 (by omega) (by omega)
  rcases Nat.lt_or_ge pc 400 with h9 | h9
  · exact jcl_spec jcl_300 (by omega) (by omega)
  rcases Nat.lt_or_ge pc 500 with h9 | h9
  · exact jcl_spec jcl_400 (by omega) (by omega)
  rcases Nat.lt_or_ge pc 600 with h9 | h9
  · exact jcl_spec jcl_500 (by omega) (by omega)
  rcases Nat.lt_or_ge pc 700 with h9 | h9
  · exact jcl_spec jcl_600 (by omega) (by omega)
  rcases Nat.lt_or_ge pc 800 with h9 | h9
  · exact jcl_spec jcl_700 (by omega) (by omega)
  rcases Nat.lt_or_ge pc 900 with h9 | h9
  · exact jcl_spec jcl_800 (by omega) (by omega)
  rcases Nat.lt_or_ge pc 1000 with h9 | h9
  · exact jcl_spec jcl_900 (by omega) (by omega)
  rcases Nat.lt_or_ge pc 1100 with h9 | h9
  · exact jcl_spec jcl_1000 (by omega) (by omega)
  rcases Nat.lt_or_ge pc 1200 with h9 | h9
  · exact jcl_spec jcl_1100 (by omega) (by omega)
  rcases Nat.lt_or_ge pc 1300 with h9 | h9
  · exact jcl_spec jcl_1200 (by omega) (by omega)
  rcases Nat.lt_or_ge pc 1400 with h9 | h9
  · exact jcl_spec jcl_1300 (by omega) (by omega)
  rcases Nat.lt_or_ge pc 1500 with h9 | h9
  · exact jcl_spec jcl_1400 (by omega) (by omega)
  rcases Nat.lt_or_ge pc 1600 with h9 | h9
  · exact jcl_spec jcl_1500 (by omega) (by omega)
  exact jcl_spec jcl_1600 (by omega) (by omega)
theorem jdec {j pc : Nat} {q : jIt} (h : jIns j pc = some q) : decode (jC j) pc = .ok (q.1, q.2.1) ∧ jok j q = true := by
  obtain ⟨h1, h2, h3⟩ := jdecA h
  rcases Nat.lt_or_ge j 359 with h9 | h9
  · exact jchk1_spec (List.all_eq_true.mp (jchk_lt h9) pc (List.mem_range.mpr h2)) h3
  · have e : j = 359 := by omega
    subst e
    exact jchk1_spec (f := jI359) (c := code) (jcl_lt h2) h3
