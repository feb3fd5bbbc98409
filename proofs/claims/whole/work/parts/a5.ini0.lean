/-! constructors: the class's own, the reference's own -/
theorem xl_drop {l : Launch} {j pc : Nat} {L : jLo} {st : List Value} {v : Option Value} {G' : jG} {h : jH} {ex : List (Nat × va_E)} {N S b : Nat} {c : va_E} (hb : b < N) (e : jn h b = c) (k0 : ovg ex b = none) (k : jE l j pc L st (mkL h ex N S) v G') : jE l j pc L st (mkL h ((b, c) :: ex) N S) v G' := by
  rw [mkL_drop hb e k0]
  exact k
theorem ci_slotAt (l : Launch) (G : jG) (x : Int) : jCl l 203 [.int (jI x)] G (some (.int (jI (200 + 301 * x)))) G := by
  refine jCl.of (by omega) (Nat.le_of_ble_eq_true rfl) (Nat.le_refl _) (Nat.le_refl _) ⟨.int, rfl, rfl⟩ ?_
  refine je_sipush rfl rfl ?_
  refine je_sipush rfl rfl ?_
  refine je_iload_n rfl rfl ?_
  refine je_imul rfl ?_
  show jE _ _ 8 _ _ _ _ _
  refine je_iadd rfl ?_
  exact je_iret rfl
section E9
variable {L : Int} {xs : Nat → Int}
theorem e311 : jn (h0 L xs) 311 = .inl (13, 5, .inl (upd (upd (upd (upd (upd (fun _ => 0) 0 (jI 3)) 1 (jI 1)) 2 (jI 1)) 3 (jI 1)) 4 (jI 2))) := by
  show (.inl (13, 5, .inl (fun k => jI ([3, 1, 1, 1, 2].getD k 0))) : va_E) = _
  refine congrArg (fun f => (Sum.inl (13, 5, Sum.inl f) : va_E)) (funext fun k => ?_)
  match k with
  | 0 => rfl
  | 1 => rfl
  | 2 => rfl
  | 3 => rfl
  | 4 => rfl
  | k + 5 =>
    unfold upd
    rw [if_neg (by omega), if_neg (by omega), if_neg (by omega), if_neg (by omega), if_neg (by omega)]
    rfl
theorem e419 : jn (h0 L xs) 419 = .inl (14, 5, .inr (.inl (vp_updL (vp_updL (vp_updL (vp_updL (vp_updL (fun _ => 0) 0 (jl 656741)) 1 (jl 206220)) 2 (jl 19513)) 3 (jl 1279278)) 4 (jl 21279923)))) := by
  show (.inl (14, 5, .inr (.inl (fun k => jl (jhd k)))) : va_E) = _
  refine congrArg (fun f => (Sum.inl (14, 5, Sum.inr (Sum.inl f)) : va_E)) (funext fun k => ?_)
  match k with
  | 0 => rfl
  | 1 => rfl
  | 2 => rfl
  | 3 => rfl
  | 4 => rfl
  | k + 5 =>
    unfold vp_updL
    rw [if_neg (by omega), if_neg (by omega), if_neg (by omega), if_neg (by omega), if_neg (by omega)]
    rfl
theorem e390 : jn (h0 L xs) 390 = .inl (13, 1362, .inl (upd (upd (upd (upd (upd (upd (upd (upd (fun _ => 0) 0 (jI 3)) 1 (jI 1)) 2 (jI 1)) 3 (jI 1)) 4 (jI 2)) 200 (jI (-1))) 501 (jI (-1))) 802 (jI (-1)))) := by
  show (.inl (13, 1362, .inl (fun k => jI (bif Nat.beq k 200 || (Nat.beq k 501 || Nat.beq k 802) then -1 else [3, 1, 1, 1, 2].getD k 0))) : va_E) = _
  refine congrArg (fun f => (Sum.inl (13, 1362, Sum.inl f) : va_E)) (funext fun k => ?_)
  by_cases a : k = 802
  · subst a; rfl
  · by_cases b : k = 501
    · subst b; rfl
    · by_cases c : k = 200
      · subst c; rfl
      · have na : Nat.beq k 802 = false := Bool.eq_false_iff.mpr (fun z => a (Nat.eq_of_beq_eq_true z))
        have nb9 : Nat.beq k 501 = false := Bool.eq_false_iff.mpr (fun z => b (Nat.eq_of_beq_eq_true z))
        have nc : Nat.beq k 200 = false := Bool.eq_false_iff.mpr (fun z => c (Nat.eq_of_beq_eq_true z))
        rw [na, nb9, nc]
        show jI ([3, 1, 1, 1, 2].getD k 0) = _
        unfold upd
        rw [if_neg a, if_neg b, if_neg c]
        match k with
        | 0 => rfl
        | 1 => rfl
        | 2 => rfl
        | 3 => rfl
        | 4 => rfl
        | k + 5 =>
          rw [if_neg (by omega), if_neg (by omega), if_neg (by omega), if_neg (by omega), if_neg (by omega)]
          rfl
end E9
