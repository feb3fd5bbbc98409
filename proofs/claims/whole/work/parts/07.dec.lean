/-- the whole check of an instruction -/
theorem jdecA {j pc : Nat} {q : jIt} (h : jIns j pc = some q) : j < 360 ∧ pc < jZ j ∧ jIr j pc = some q := by
  unfold jIns at h
  cases hb : (Nat.blt j jN && Nat.blt pc (jZ j)) with
  | false => rw [hb] at h; cases h
  | true =>
    rw [hb] at h
    simp only [Bool.and_eq_true] at hb
    exact ⟨Nat.le_of_ble_eq_true hb.1, Nat.le_of_ble_eq_true hb.2, h⟩
theorem jchk1_spec {j pc : Nat} {f : Nat → Option jIt} {c : ByteArray} {q : jIt} (h : jchk1 j f c pc = true) (hq : f pc = some q) : decode c pc = .ok (q.1, q.2.1) ∧ jok j q = true := by
  unfold jchk1 at h
  rw [hq] at h
  simpa using h
theorem jchkR_spec {a n j : Nat} (h : jchkR a n = true) (h1 : a ≤ j) (h2 : j < a + n) : jchk j = true := by
  have h3 := List.all_eq_true.mp h (j - a) (List.mem_range.mpr (by omega))
  rwa [show a + (j - a) = j by omega] at h3
theorem jdec {j pc : Nat} {q : jIt} (h : jIns j pc = some q) : decode (jC j) pc = .ok (q.1, q.2.1) ∧ jok j q = true := by
  sorry
