theorem jm_sp {a n j : Nat} (h : (List.range n).all (fun i => jmOK (a + i)) = true) (h1 : a ≤ j) (h2 : j < a + n) : jmOK j = true := by
  have h3 := List.all_eq_true.mp h (j - a) (List.mem_range.mpr (by omega))
  rwa [show a + (j - a) = j by omega] at h3
theorem jm_lt {j : Nat} (h : j < 359) : jmOK j = true := by
  rcases Nat.lt_or_ge j 60 with h9 | h9
  · exact jm_sp jm_0 (by omega) (by omega)
  rcases Nat.lt_or_ge j 120 with h9 | h9
  · exact jm_sp jm_60 (by omega) (by omega)
  rcases Nat.lt_or_ge j 180 with h9 | h9
  · exact jm_sp jm_120 (by omega) (by omega)
  rcases Nat.lt_or_ge j 240 with h9 | h9
  · exact jm_sp jm_180 (by omega) (by omega)
  rcases Nat.lt_or_ge j 300 with h9 | h9
  · exact jm_sp jm_240 (by omega) (by omega)
  exact jm_sp jm_300 (by omega) (by omega)
def jNp (m : Nat) : Nat := match jMt[m]? with
  | some (_, _, _, _, _, np) => np
  | none => 0
def jSta (m : Nat) : Bool := match jMt[m]? with
  | some (_, _, _, _, st, _) => Nat.beq st 1
  | none => false
def jSel (m : Nat) : Bool := match jMt[m]? with
  | some (_, _, _, sl, _, _) => !(Nat.beq sl 9999)
  | none => false
def jmvOK (r : jQ4) : Bool := Nat.blt r.2.2.1 359 && (!(jSta r.2.2.1) && (jSel r.2.2.1 && (jAt r.2.2.2 (.methodLink (jOn r.1) r.2.1 (jY r.2.2.1)) && decide ((vwCl.map (fun q => q.1)).contains (jY r.2.2.1).cls))))
theorem jMV_ok : jMV.all jmvOK = true := by decide +kernel
def jmsOK (r : jQ4) : Bool := Nat.blt r.2.2.1 359 && (jSta r.2.2.1 && jAt r.2.2.2 (.methodLink (jOn r.1) r.2.1 (jY r.2.2.1)))
theorem jMS_ok : jMS.all jmsOK = true := by decide +kernel
def jmiOK (r : jQ4) : Bool := Nat.blt r.2.2.1 359 && (!(jSta r.2.2.1) && (jAt r.2.2.2 (.methodLink (jOn r.1) r.2.1 (jY r.2.2.1)) && (decide ((jY r.2.2.1).name = "<init>") && decide (jR r.2.2.1 = none))))
theorem jMI_ok : jMI.all jmiOK = true := by decide +kernel
def jmoOK (r : jQ4) : Bool := jAt r.2.2.2 (.methodLink (jOn r.1) r.2.1 Lib.objectInit)
theorem jMO_ok : jMO.all jmoOK = true := by decide +kernel
def jmaOK (r : jQ4) : Bool := jAt r.2.2.2 (.methodLink (jOn r.1) r.2.1 arraycopyName)
theorem jMA_ok : jMA.all jmaOK = true := by decide +kernel
def jnwOK (r : jQ4) : Bool := match vwCl[r.2.2.1]?, jNt[r.2.2.1]? with
  | some q, some (a, b) => jAt r.2.2.2 (.classLink (jOn r.1) r.2.1 q.1) && (jAt a (.instantiable q.1 q.2.2) && jAt b (.initialized q.1))
  | _, _ => false
theorem jNW_ok : jNW.all jnwOK = true := by decide +kernel
def jAn (k : Nat) : String := bif Nat.beq k 16 then "TailPatches$Row" else "TailPatches$State"
def jawOK (r : jQ4) : Bool := (Nat.beq r.2.2.1 16 || Nat.beq r.2.2.1 17) && jAt r.2.2.2 (.classLink (jOn r.1) r.2.1 (jAn r.2.2.1))
theorem jAW_ok : jAW.all jawOK = true := by decide +kernel
def jciOK (r : jQ4) : Bool := jAt r.2.2.2 (.constant (jOn r.1) r.2.1 (Int32.ofNat r.2.2.1))
theorem jCI_ok : jCI.all jciOK = true := by decide +kernel
def jclOK (r : jQ4) : Bool := jAt r.2.2.2 (.constantLong (jOn r.1) r.2.1 (Int64.ofNat r.2.2.1))
theorem jCL_ok : jCL.all jclOK = true := by decide +kernel
def jSn (k : Nat) : String := bif Nat.beq k 0 then "TERM_LOWEST" else bif Nat.beq k 1 then "TERM_HIGHEST" else "TERM_AT_FIRST"
def jgsOK (r : jQ4) : Bool := Nat.blt r.2.2.1 3 && jAt r.2.2.2 (.fieldLink (jOn r.1) r.2.1 "TailPatches" (jSn r.2.2.1) "[I")
theorem jGS_ok : jGS.all jgsOK = true := by decide +kernel
def jCw (c : Nat) : Bool := match vwCl[c]? with
  | some q => Nat.beq (u_ws q.1 q.2.1 q.2.2).length (jWp.getD c []).length && ((u_ws q.1 q.2.1 q.2.2).zip (jWp.getD c [])).all (fun w => jAt w.2 w.1)
  | none => false
theorem jCw_all : (List.range 13).all jCw = true := by decide +kernel
theorem jM_le : (List.range 359).all (fun j => Nat.ble (jM j) 17) = true := by decide +kernel
