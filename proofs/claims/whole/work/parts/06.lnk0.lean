/-! the links, as words of the tables -/
def jOw (j : Nat) : String := jOs.getD (jO j) ""
def jOn (o : Nat) : String := jOs.getD o ""
def jflOK (r : jQ4) : Bool := match vwCl[r.2.2.1 / 1000]? with
  | some q => Nat.blt (r.2.2.1 % 1000) q.2.2 && jAt r.2.2.2 (.fieldLink (jOn r.1) r.2.1 (q.2.1 (r.2.2.1 % 1000)).1 (q.2.1 (r.2.2.1 % 1000)).2.1 (q.2.1 (r.2.2.1 % 1000)).2.2.1)
  | none => false
theorem jFL_ok : jFL.all jflOK = true := by decide +kernel
def jmOK (m : Nat) : Bool := match jMt[m]? with
  | some (c, i, b, sl, st, np) => (jAt i (.initialized (jY m).cls) && ((bif Nat.beq st 1 then jAt b (.static (jY m)) else jAt b (.instanceMethod (jY m)) && (bif Nat.beq sl 9999 then true else jAt sl (.selects (jY m).cls (jY m) (jY m)))) &&
      (decide ((jY m).cls ≠ "java/lang/invoke/MethodHandle" ∧ (jY m).cls ≠ "java/lang/invoke/VarHandle" ∧ (parseMethodDescriptor (jY m).desc).map (fun d => d.parameters.length) = some np) && plainName (jY m).cls)))
  | none => false
