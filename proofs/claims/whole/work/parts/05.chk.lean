/-! the tables are held against the Statement: every instruction decodes so, every link is a word of the tables -/
def jHas (L : List jQ4) (a b c : Nat) : Bool := L.any fun r => Nat.beq r.1 a && (Nat.beq r.2.1 b && Nat.beq r.2.2.1 c)
theorem jHas_spec {L : List jQ4} {a b c : Nat} (h : jHas L a b c = true) : ∃ d, (a, b, c, d) ∈ L := by
  obtain ⟨⟨x, y, z, d⟩, hm, hh⟩ := List.any_eq_true.mp h
  simp only [Bool.and_eq_true] at hh
  obtain ⟨h1, h2, h3⟩ := hh
  cases Nat.eq_of_beq_eq_true h1
  cases Nat.eq_of_beq_eq_true h2
  cases Nat.eq_of_beq_eq_true h3
  exact ⟨d, hm⟩
def jTb : List Cond := lw_tbl.filter goodWord
def jAt (p : Nat) (w : Cond) : Bool := decide (lw_tbl[p]? = some w) && goodWord w
theorem jAt_mem {p : Nat} {w : Cond} (h : jAt p w = true) : w ∈ jTb := by
  simp only [jAt, Bool.and_eq_true, decide_eq_true_eq] at h
  exact List.mem_filter.mpr ⟨List.mem_of_getElem? h.1, h.2⟩
theorem jTb_good {w : Cond} (h : w ∈ jTb) : w ∈ lw_tbl ∧ ((w.onTables && w.keeps) = true ∨ ∃ ty, w = .arrayClass ty) :=
  ⟨(List.mem_filter.mp h).1, good_of_word (List.mem_filter.mp h).2⟩
def jok (j : Nat) (q : jIt) : Bool := match q.1 with
  | .getfield i => jHas jFL (jO j) i q.2.2
  | .putfield i => jHas jFL (jO j) i q.2.2
  | .invokevirtual i => bif Nat.beq q.2.2 10005 then jHas jSL (jO j) i q.2.2 else bif Nat.beq q.2.2 10006 then jHas jSC (jO j) i q.2.2 else jHas jMV (jO j) i q.2.2
  | .invokestatic i => bif Nat.beq q.2.2 10004 then jHas jMA (jO j) i q.2.2 else jHas jMS (jO j) i q.2.2
  | .invokespecial i => bif Nat.beq q.2.2 10007 then jHas jMO (jO j) i q.2.2 else jHas jMI (jO j) i q.2.2
  | .new i => jHas jNW (jO j) i q.2.2
  | .anewarray i => jHas jAW (jO j) i q.2.2
  | .ldc i => bif Nat.blt q.2.2 4294967296 then jHas jCI (jO j) i q.2.2 else jHas jCS (jO j) i q.2.2
  | .ldc_w i => bif Nat.blt q.2.2 4294967296 then jHas jCI (jO j) i q.2.2 else jHas jCS (jO j) i q.2.2
  | .ldc2_w i => jHas jCL (jO j) i q.2.2
  | .getstatic i => jHas jGS (jO j) i q.2.2
  | _ => true
def jchk1 (j : Nat) (f : Nat → Option jIt) (c : ByteArray) (pc : Nat) : Bool := match f pc with
  | none => true
  | some q => decide (decode c pc = .ok (q.1, q.2.1)) && jok j q
def jchk (j : Nat) : Bool := (List.range (jZ j)).all (jchk1 j (jIr j) (jC j))
def jchkR (a n : Nat) : Bool := (List.range n).all fun i => jchk (a + i)
