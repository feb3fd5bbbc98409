/-! the links, as words of the tables -/
def jOw (j : Nat) : String := jOs.getD (jO j) ""
def jOn (o : Nat) : String := jOs.getD o ""
def jflOK (r : jQ4) : Bool := match vwCl[r.2.2.1 / 1000]? with
  | some q => Nat.blt (r.2.2.1 % 1000) q.2.2 && jAt r.2.2.2 (.fieldLink (jOn r.1) r.2.1 (q.2.1 (r.2.2.1 % 1000)).1 (q.2.1 (r.2.2.1 % 1000)).2.1 (q.2.1 (r.2.2.1 % 1000)).2.2.1)
  | none => false
theorem jFL_ok : jFL.all jflOK = true := by decide +kernel
def jmOK (m : Nat) : Bool := match jMt[m]? with
  | some (c, i, b, sl, st, np) => jAt c (.code (jY m) (jC m) (jM m) (jR m)) && (jAt i (.initialized (jY m).cls) && ((bif Nat.beq st 1 then jAt b (.static (jY m)) else jAt b (.instanceMethod (jY m)) && (bif Nat.beq sl 9999 then true else jAt sl (.selects (jY m).cls (jY m) (jY m)))) &&
      (decide ((jY m).cls ≠ "java/lang/invoke/MethodHandle" ∧ (jY m).cls ≠ "java/lang/invoke/VarHandle" ∧ (parseMethodDescriptor (jY m).desc).map (fun d => d.parameters.length) = some np) && plainName (jY m).cls)))
  | none => false
theorem jm_all : (List.range 359).all jmOK = true := by decide +kernel
def jNp (m : Nat) : Nat := match jMt[m]? with
  | some (_, _, _, _, _, np) => np
  | none => 0
def jSta (m : Nat) : Bool := match jMt[m]? with
  | some (_, _, _, _, st, _) => Nat.beq st 1
  | none => false
def jSel (m : Nat) : Bool := match jMt[m]? with
  | some (_, _, _, sl, _, _) => !(Nat.beq sl 9999)
  | none => false
def jmvOK (r : jQ4) : Bool := Nat.blt r.2.2.1 359 && (!(jSta r.2.2.1) && (jSel r.2.2.1 && (jAt r.2.2.2 (.methodLink (jOn r.1) r.2.1 (jY r.2.2.1)) && decide ((vwCl.map (fun q => q.1)).contains (jY r.2.2.1).cls))))
theorem jMV_ok : jMV.all jmvOK = true := by decide +kernel
def jmsOK (r : jQ4) : Bool := Nat.blt r.2.2.1 359 && (jSta r.2.2.1 && jAt r.2.2.2 (.methodLink (jOn r.1) r.2.1 (jY r.2.2.1)))
theorem jMS_ok : jMS.all jmsOK = true := by decide +kernel
def jmiOK (r : jQ4) : Bool := Nat.blt r.2.2.1 359 && (!(jSta r.2.2.1) && (jAt r.2.2.2 (.methodLink (jOn r.1) r.2.1 (jY r.2.2.1)) && (decide ((jY r.2.2.1).name = "<init>") && decide (jR r.2.2.1 = none))))
theorem jMI_ok : jMI.all jmiOK = true := by decide +kernel
def jmoOK (r : jQ4) : Bool := jAt r.2.2.2 (.methodLink (jOn r.1) r.2.1 Lib.objectInit)
theorem jMO_ok : jMO.all jmoOK = true := by decide +kernel
def jmaOK (r : jQ4) : Bool := jAt r.2.2.2 (.methodLink (jOn r.1) r.2.1 arraycopyName)
theorem jMA_ok : jMA.all jmaOK = true := by decide +kernel
def jnwOK (r : jQ4) : Bool := match vwCl[r.2.2.1]?, jNt[r.2.2.1]? with
  | some q, some (a, b) => jAt r.2.2.2 (.classLink (jOn r.1) r.2.1 q.1) && (jAt a (.instantiable q.1 q.2.2) && jAt b (.initialized q.1))
  | _, _ => false
theorem jNW_ok : jNW.all jnwOK = true := by decide +kernel
def jAn (k : Nat) : String := bif Nat.beq k 16 then "TailPatches$Row" else "TailPatches$State"
def jawOK (r : jQ4) : Bool := (Nat.beq r.2.2.1 16 || Nat.beq r.2.2.1 17) && jAt r.2.2.2 (.classLink (jOn r.1) r.2.1 (jAn r.2.2.1))
theorem jAW_ok : jAW.all jawOK = true := by decide +kernel
def jciOK (r : jQ4) : Bool := jAt r.2.2.2 (.constant (jOn r.1) r.2.1 (Int32.ofNat r.2.2.1))
theorem jCI_ok : jCI.all jciOK = true := by decide +kernel
def jclOK (r : jQ4) : Bool := jAt r.2.2.2 (.constantLong (jOn r.1) r.2.1 (Int64.ofNat r.2.2.1))
theorem jCL_ok : jCL.all jclOK = true := by decide +kernel
def jSn (k : Nat) : String := bif Nat.beq k 0 then "TERM_LOWEST" else bif Nat.beq k 1 then "TERM_HIGHEST" else "TERM_AT_FIRST"
def jgsOK (r : jQ4) : Bool := Nat.blt r.2.2.1 3 && jAt r.2.2.2 (.fieldLink (jOn r.1) r.2.1 "TailPatches" (jSn r.2.2.1) "[I")
theorem jGS_ok : jGS.all jgsOK = true := by decide +kernel
def jCw (c : Nat) : Bool := match vwCl[c]? with
  | some q => (u_ws q.1 q.2.1 q.2.2).all (fun w => lw_tbl.contains w && goodWord w)
  | none => false
theorem jCw_all : (List.range 13).all jCw = true := by decide +kernel
/-- the whole check of an instruction -/
theorem jdecA {j pc : Nat} {q : jIt} (h : jIns j pc = some q) : j < 360 ∧ pc < jZ j ∧ jIr j pc = some q := by
  unfold jIns at h
  cases hb : (Nat.blt j jN && Nat.blt pc (jZ j)) with
  | false => rw [hb] at h; cases h
  | true =>
    rw [hb] at h
    simp only [Bool.and_eq_true] at hb
    exact ⟨Nat.le_of_ble_eq_true hb.1, Nat.le_of_ble_eq_true hb.2, h⟩
theorem jchk1_spec {j pc : Nat} {f : Nat → Option jIt} {c : ByteArray} {q : jIt} (h : jchk1 j f c pc = true) (hq : f pc = some q) : decode c pc = .ok (q.1, q.2.1) ∧ jok j q = true := by
  unfold jchk1 at h
  rw [hq] at h
  simpa using h
theorem jchkR_spec {a n j : Nat} (h : jchkR a n = true) (h1 : a ≤ j) (h2 : j < a + n) : jchk j = true := by
  have h3 := List.all_eq_true.mp h (j - a) (List.mem_range.mpr (by omega))
  rwa [show a + (j - a) = j by omega] at h3
theorem jchk_lt {j : Nat} (h : j < 359) : jchk j = true := by
  rcases Nat.lt_or_ge j 12 with h9 | h9
  · exact jchkR_spec jch_0 (by omega) (by omega)
  rcases Nat.lt_or_ge j 24 with h9 | h9
  · exact jchkR_spec jch_12 (by omega) (by omega)
  rcases Nat.lt_or_ge j 36 with h9 | h9
  · exact jchkR_spec jch_24 (by omega) (by omega)
  rcases Nat.lt_or_ge j 48 with h9 | h9
  · exact jchkR_spec jch_36 (by omega) (by omega)
  rcases Nat.lt_or_ge j 60 with h9 | h9
  · exact jchkR_spec jch_48 (by omega) (by omega)
  rcases Nat.lt_or_ge j 72 with h9 | h9
  · exact jchkR_spec jch_60 (by omega) (by omega)
  rcases Nat.lt_or_ge j 84 with h9 | h9
  · exact jchkR_spec jch_72 (by omega) (by omega)
  rcases Nat.lt_or_ge j 96 with h9 | h9
  · exact jchkR_spec jch_84 (by omega) (by omega)
  rcases Nat.lt_or_ge j 108 with h9 | h9
  · exact jchkR_spec jch_96 (by omega) (by omega)
  rcases Nat.lt_or_ge j 120 with h9 | h9
  · exact jchkR_spec jch_108 (by omega) (by omega)
  rcases Nat.lt_or_ge j 132 with h9 | h9
  · exact jchkR_spec jch_120 (by omega) (by omega)
  rcases Nat.lt_or_ge j 144 with h9 | h9
  · exact jchkR_spec jch_132 (by omega) (by omega)
  rcases Nat.lt_or_ge j 156 with h9 | h9
  · exact jchkR_spec jch_144 (by omega) (by omega)
  rcases Nat.lt_or_ge j 168 with h9 | h9
  · exact jchkR_spec jch_156 (by omega) (by omega)
  rcases Nat.lt_or_ge j 180 with h9 | h9
  · exact jchkR_spec jch_168 (by omega) (by omega)
  rcases Nat.lt_or_ge j 192 with h9 | h9
  · exact jchkR_spec jch_180 (by omega) (by omega)
  rcases Nat.lt_or_ge j 204 with h9 | h9
  · exact jchkR_spec jch_192 (by omega) (by omega)
  rcases Nat.lt_or_ge j 216 with h9 | h9
  · exact jchkR_spec jch_204 (by omega) (by omega)
  rcases Nat.lt_or_ge j 228 with h9 | h9
  · exact jchkR_spec jch_216 (by omega) (by omega)
  rcases Nat.lt_or_ge j 240 with h9 | h9
  · exact jchkR_spec jch_228 (by omega) (by omega)
  rcases Nat.lt_or_ge j 252 with h9 | h9
  · exact jchkR_spec jch_240 (by omega) (by omega)
  rcases Nat.lt_or_ge j 264 with h9 | h9
  · exact jchkR_spec jch_252 (by omega) (by omega)
  rcases Nat.lt_or_ge j 276 with h9 | h9
  · exact jchkR_spec jch_264 (by omega) (by omega)
  rcases Nat.lt_or_ge j 288 with h9 | h9
  · exact jchkR_spec jch_276 (by omega) (by omega)
  rcases Nat.lt_or_ge j 300 with h9 | h9
  · exact jchkR_spec jch_288 (by omega) (by omega)
  rcases Nat.lt_or_ge j 312 with h9 | h9
  · exact jchkR_spec jch_300 (by omega) (by omega)
  rcases Nat.lt_or_ge j 324 with h9 | h9
  · exact jchkR_spec jch_312 (by omega) (by omega)
  rcases Nat.lt_or_ge j 336 with h9 | h9
  · exact jchkR_spec jch_324 (by omega) (by omega)
  rcases Nat.lt_or_ge j 348 with h9 | h9
  · exact jchkR_spec jch_336 (by omega) (by omega)
  exact jchkR_spec jch_348 (by omega) (by omega)
theorem jcl_spec {a n pc : Nat} (h : (List.range n).all (fun i => jchk1 359 jI359 code (a + i)) = true) (h1 : a ≤ pc) (h2 : pc < a + n) : jchk1 359 jI359 code pc = true := by
  have h3 := List.all_eq_true.mp h (pc - a) (List.mem_range.mpr (by omega))
  rwa [show a + (pc - a) = pc by omega] at h3
theorem jcl_lt {pc : Nat} (h : pc < 1687) : jchk1 359 jI359 code pc = true := by
  rcases Nat.lt_or_ge pc 150 with h9 | h9
  · exact jcl_spec jcl_0 (by omega) (by omega)
  rcases Nat.lt_or_ge pc 300 with h9 | h9
  · exact jcl_spec jcl_150 (by omega) (by omega)
  rcases Nat.lt_or_ge pc 450 with h9 | h9
  · exact jcl_spec jcl_300 (by omega) (by omega)
  rcases Nat.lt_or_ge pc 600 with h9 | h9
  · exact jcl_spec jcl_450 (by omega) (by omega)
  rcases Nat.lt_or_ge pc 750 with h9 | h9
  · exact jcl_spec jcl_600 (by omega) (by omega)
  rcases Nat.lt_or_ge pc 900 with h9 | h9
  · exact jcl_spec jcl_750 (by omega) (by omega)
  rcases Nat.lt_or_ge pc 1050 with h9 | h9
  · exact jcl_spec jcl_900 (by omega) (by omega)
  rcases Nat.lt_or_ge pc 1200 with h9 | h9
  · exact jcl_spec jcl_1050 (by omega) (by omega)
  rcases Nat.lt_or_ge pc 1350 with h9 | h9
  · exact jcl_spec jcl_1200 (by omega) (by omega)
  rcases Nat.lt_or_ge pc 1500 with h9 | h9
  · exact jcl_spec jcl_1350 (by omega) (by omega)
  rcases Nat.lt_or_ge pc 1650 with h9 | h9
  · exact jcl_spec jcl_1500 (by omega) (by omega)
  exact jcl_spec jcl_1650 (by omega) (by omega)
theorem jdec {j pc : Nat} {q : jIt} (h : jIns j pc = some q) : decode (jC j) pc = .ok (q.1, q.2.1) ∧ jok j q = true := by
  obtain ⟨h1, h2, h3⟩ := jdecA h
  rcases Nat.lt_or_ge j 359 with h9 | h9
  · exact jchk1_spec (List.all_eq_true.mp (jchk_lt h9) pc (List.mem_range.mpr h2)) h3
  · have e : j = 359 := by omega
    subst e
    exact jchk1_spec (f := jI359) (c := code) (jcl_lt h2) h3
