theorem jall_step {L : List jQ4} {a n : Nat} {f : jQ4 → Bool} (h1 : ((L.drop a).take n).all f = true) (h2 : (L.drop (a + n)).all f = true) : (L.drop a).all f = true := by
  rw [← List.take_append_drop n (L.drop a), List.all_append, h1, List.drop_drop]
  simpa using h2
def jNp (m : Nat) : Nat := match jMt[m]? with
  | some (_, _, _, _, _, np) => np
  | none => 0
def jSta (m : Nat) : Bool := match jMt[m]? with
  | some (_, _, _, _, st, _) => Nat.beq st 1
  | none => false
def jSel (m : Nat) : Bool := match jMt[m]? with
  | some (_, _, _, sl, _, _) => !(Nat.beq sl 9999)
  | none => false
def jmvOK (r : jQ4) : Bool := Nat.blt r.2.2.1 359 && (!(jSta r.2.2.1) && (jSel r.2.2.1 && (jAt r.2.2.2 (.methodLink (jOn r.1) r.2.1 (jY r.2.2.1)) && decide ((vwCl.map (fun q => q.1)).contains (jY r.2.2.1).cls))))
theorem jMV_c0 : ((jMV.drop 0).take 30).all jmvOK = true := by decide +kernel
theorem jMV_c30 : ((jMV.drop 30).take 30).all jmvOK = true := by decide +kernel
theorem jMV_c60 : ((jMV.drop 60).take 30).all jmvOK = true := by decide +kernel
theorem jMV_c90 : ((jMV.drop 90).take 30).all jmvOK = true := by decide +kernel
theorem jMV_c120 : ((jMV.drop 120).take 30).all jmvOK = true := by decide +kernel
theorem jMV_c150 : ((jMV.drop 150).take 30).all jmvOK = true := by decide +kernel
theorem jMV_c180 : ((jMV.drop 180).take 30).all jmvOK = true := by decide +kernel
theorem jMV_c210 : ((jMV.drop 210).take 30).all jmvOK = true := by decide +kernel
theorem jMV_c240 : ((jMV.drop 240).take 30).all jmvOK = true := by decide +kernel
theorem jMV_c270 : ((jMV.drop 270).take 30).all jmvOK = true := by decide +kernel
theorem jMV_c300 : ((jMV.drop 300).take 30).all jmvOK = true := by decide +kernel
theorem jMV_c330 : ((jMV.drop 330).take 30).all jmvOK = true := by decide +kernel
theorem jMV_c360 : ((jMV.drop 360).take 30).all jmvOK = true := by decide +kernel
theorem jMV_ok : jMV.all jmvOK = true := by
  show (jMV.drop 0).all jmvOK = true
  refine jall_step jMV_c0 ?_
  refine jall_step jMV_c30 ?_
  refine jall_step jMV_c60 ?_
  refine jall_step jMV_c90 ?_
  refine jall_step jMV_c120 ?_
  refine jall_step jMV_c150 ?_
  refine jall_step jMV_c180 ?_
  refine jall_step jMV_c210 ?_
  refine jall_step jMV_c240 ?_
  refine jall_step jMV_c270 ?_
  refine jall_step jMV_c300 ?_
  refine jall_step jMV_c330 ?_
  refine jall_step jMV_c360 ?_
  show (jMV.drop 390).all jmvOK = true
  rfl
def jmsOK (r : jQ4) : Bool := Nat.blt r.2.2.1 359 && (jSta r.2.2.1 && jAt r.2.2.2 (.methodLink (jOn r.1) r.2.1 (jY r.2.2.1)))
theorem jMS_c0 : ((jMS.drop 0).take 30).all jmsOK = true := by decide +kernel
theorem jMS_ok : jMS.all jmsOK = true := by
  show (jMS.drop 0).all jmsOK = true
  refine jall_step jMS_c0 ?_
  show (jMS.drop 30).all jmsOK = true
  rfl
def jmiOK (r : jQ4) : Bool := Nat.blt r.2.2.1 359 && (!(jSta r.2.2.1) && (jAt r.2.2.2 (.methodLink (jOn r.1) r.2.1 (jY r.2.2.1)) && (decide ((jY r.2.2.1).name = "<init>") && decide (jR r.2.2.1 = none))))
theorem jMI_c0 : ((jMI.drop 0).take 30).all jmiOK = true := by decide +kernel
theorem jMI_ok : jMI.all jmiOK = true := by
  show (jMI.drop 0).all jmiOK = true
  refine jall_step jMI_c0 ?_
  show (jMI.drop 30).all jmiOK = true
  rfl
def jmoOK (r : jQ4) : Bool := jAt r.2.2.2 (.methodLink (jOn r.1) r.2.1 Lib.objectInit)
theorem jMO_ok : jMO.all jmoOK = true := by decide +kernel
def jmaOK (r : jQ4) : Bool := jAt r.2.2.2 (.methodLink (jOn r.1) r.2.1 arraycopyName)
theorem jMA_ok : jMA.all jmaOK = true := by decide +kernel
def jnwOK (r : jQ4) : Bool := match vwCl[r.2.2.1]?, jNt[r.2.2.1]? with
  | some q, some (a, b) => jAt r.2.2.2 (.classLink (jOn r.1) r.2.1 q.1) && (jAt a (.instantiable q.1 q.2.2) && jAt b (.initialized q.1))
  | _, _ => false
theorem jNW_ok : jNW.all jnwOK = true := by decide +kernel
def jAn (k : Nat) : String := bif Nat.beq k 16 then "TailPatches$Row" else "TailPatches$State"
def jawOK (r : jQ4) : Bool := (Nat.beq r.2.2.1 16 || Nat.beq r.2.2.1 17) && jAt r.2.2.2 (.classLink (jOn r.1) r.2.1 (jAn r.2.2.1))
theorem jAW_ok : jAW.all jawOK = true := by decide +kernel
def jciOK (r : jQ4) : Bool := jAt r.2.2.2 (.constant (jOn r.1) r.2.1 (Int32.ofNat r.2.2.1))
theorem jCI_ok : jCI.all jciOK = true := by decide +kernel
def jclOK (r : jQ4) : Bool := jAt r.2.2.2 (.constantLong (jOn r.1) r.2.1 (Int64.ofNat r.2.2.1))
theorem jCL_ok : jCL.all jclOK = true := by decide +kernel
def jSn (k : Nat) : String := bif Nat.beq k 0 then "TERM_LOWEST" else bif Nat.beq k 1 then "TERM_HIGHEST" else "TERM_AT_FIRST"
def jgsOK (r : jQ4) : Bool := Nat.blt r.2.2.1 3 && jAt r.2.2.2 (.fieldLink (jOn r.1) r.2.1 "TailPatches" (jSn r.2.2.1) "[I")
theorem jGS_ok : jGS.all jgsOK = true := by decide +kernel
def jCw (c : Nat) : Bool := match vwCl[c]? with
  | some q => Nat.beq (u_ws q.1 q.2.1 q.2.2).length (jWp.getD c []).length && ((u_ws q.1 q.2.1 q.2.2).zip (jWp.getD c [])).all (fun w => jAt w.2 w.1)
  | none => false
theorem jCw_all : (List.range 13).all jCw = true := by decide +kernel
theorem jM_le : (List.range 359).all (fun j => Nat.ble (jM j) 17) = true := by decide +kernel
