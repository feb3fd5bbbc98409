/-! the links, as words of the tables -/
def jOw (j : Nat) : String := jOs.getD (jO j) ""
def jOn (o : Nat) : String := jOs.getD o ""
def jflOK (r : jQ4) : Bool := match vwCl[r.2.2.1 / 1000]? with
  | some q => Nat.blt (r.2.2.1 % 1000) q.2.2 && jAt r.2.2.2 (.fieldLink (jOn r.1) r.2.1 (q.2.1 (r.2.2.1 % 1000)).1 (q.2.1 (r.2.2.1 % 1000)).2.1 (q.2.1 (r.2.2.1 % 1000)).2.2.1)
  | none => false
theorem jFL_ok : jFL.all jflOK = true := by sorry
def jmOK (m : Nat) : Bool := match jMt[m]? with
  | some (c, i, b, sl, st, np) => jAt c (.code (jY m) (jC m) (jM m) (jR m)) && (jAt i (.initialized (jY m).cls) && ((bif Nat.beq st 1 then jAt b (.static (jY m)) else jAt b (.instanceMethod (jY m)) && (bif Nat.beq sl 9999 then true else jAt sl (.selects (jY m).cls (jY m) (jY m)))) &&
      (decide ((jY m).cls ≠ "java/lang/invoke/MethodHandle" ∧ (jY m).cls ≠ "java/lang/invoke/VarHandle" ∧ (parseMethodDescriptor (jY m).desc).map (fun d => d.parameters.length) = some np) && plainName (jY m).cls)))
  | none => false
theorem jm_all : (List.range 359).all jmOK = true := by sorry
def jNp (m : Nat) : Nat := match jMt[m]? with
  | some (_, _, _, _, _, np) => np
  | none => 0
def jSta (m : Nat) : Bool := match jMt[m]? with
  | some (_, _, _, _, st, _) => Nat.beq st 1
  | none => false
def jSel (m : Nat) : Bool := match jMt[m]? with
  | some (_, _, _, sl, _, _) => !(Nat.beq sl 9999)
  | none => false
def jmvOK (r : jQ4) : Bool := Nat.blt r.2.2.1 359 && (!(jSta r.2.2.1) && (jSel r.2.2.1 && (jAt r.2.2.2 (.methodLink (jOn r.1) r.2.1 (jY r.2.2.1)) && decide ((vwCl.map (fun q => q.1)).contains (jY r.2.2.1).cls))))
theorem jMV_ok : jMV.all jmvOK = true := by sorry
def jmsOK (r : jQ4) : Bool := Nat.blt r.2.2.1 359 && (jSta r.2.2.1 && jAt r.2.2.2 (.methodLink (jOn r.1) r.2.1 (jY r.2.2.1)))
theorem jMS_ok : jMS.all jmsOK = true := by sorry
def jmiOK (r : jQ4) : Bool := Nat.blt r.2.2.1 359 && (!(jSta r.2.2.1) && (jAt r.2.2.2 (.methodLink (jOn r.1) r.2.1 (jY r.2.2.1)) && (decide ((jY r.2.2.1).name = "<init>") && decide (jR r.2.2.1 = none))))
theorem jMI_ok : jMI.all jmiOK = true := by sorry
def jmoOK (r : jQ4) : Bool := jAt r.2.2.2 (.methodLink (jOn r.1) r.2.1 Lib.objectInit)
theorem jMO_ok : jMO.all jmoOK = true := by sorry
def jmaOK (r : jQ4) : Bool := jAt r.2.2.2 (.methodLink (jOn r.1) r.2.1 arraycopyName)
theorem jMA_ok : jMA.all jmaOK = true := by sorry
def jnwOK (r : jQ4) : Bool := match vwCl[r.2.2.1]?, jNt[r.2.2.1]? with
  | some q, some (a, b) => jAt r.2.2.2 (.classLink (jOn r.1) r.2.1 q.1) && (jAt a (.instantiable q.1 q.2.2) && jAt b (.initialized q.1))
  | _, _ => false
theorem jNW_ok : jNW.all jnwOK = true := by sorry
def jAn (k : Nat) : String := bif Nat.beq k 16 then "TailPatches$Row" else "TailPatches$State"
def jawOK (r : jQ4) : Bool := (Nat.beq r.2.2.1 16 || Nat.beq r.2.2.1 17) && jAt r.2.2.2 (.classLink (jOn r.1) r.2.1 (jAn r.2.2.1))
theorem jAW_ok : jAW.all jawOK = true := by sorry
def jciOK (r : jQ4) : Bool := jAt r.2.2.2 (.constant (jOn r.1) r.2.1 (Int32.ofNat r.2.2.1))
theorem jCI_ok : jCI.all jciOK = true := by sorry
def jclOK (r : jQ4) : Bool := jAt r.2.2.2 (.constantLong (jOn r.1) r.2.1 (Int64.ofNat r.2.2.1))
theorem jCL_ok : jCL.all jclOK = true := by sorry
def jSn (k : Nat) : String := bif Nat.beq k 0 then "TERM_LOWEST" else bif Nat.beq k 1 then "TERM_HIGHEST" else "TERM_AT_FIRST"
def jgsOK (r : jQ4) : Bool := Nat.blt r.2.2.1 3 && jAt r.2.2.2 (.fieldLink (jOn r.1) r.2.1 "TailPatches" (jSn r.2.2.1) "[I")
theorem jGS_ok : jGS.all jgsOK = true := by sorry
def jCw (c : Nat) : Bool := match vwCl[c]? with
  | some q => (u_ws q.1 q.2.1 q.2.2).all (fun w => lw_tbl.contains w && goodWord w)
  | none => false
theorem jCw_all : (List.range 13).all jCw = true := by sorry
