/-! constructors: the whole memory while it is made -/
def h00 (i k : Nat) : Int := bif Nat.beq i 311 then [3, 1, 1, 1, 2].getD k 0 else bif Nat.beq i 362 then (bif Nat.ble k 1 then -1 else 0) else bif Nat.beq i 377 then (bif Nat.beq k 1 || Nat.beq k 2 then -1 else 0) else bif Nat.beq i 388 then (bif Nat.beq k 59 || Nat.beq k 74 then -1 else 0) else bif Nat.beq i 390 then (bif Nat.beq k 200 || (Nat.beq k 501 || Nat.beq k 802) then -1 else [3, 1, 1, 1, 2].getD k 0) else 0
def h0 (L : Int) (xs : Nat → Int) : jH := fun i k => bif Nat.beq i 1000000 then xs k else bif Nat.beq i 1000001 then L else h00 i k
def jn (h : jH) (i : Nat) : va_E := bif Nat.ble 434 i then jm h i else bif Nat.beq (sk i) 16 then .inl (16, 3, .inr (.inr (.inr (.inr (rfN (sr i) 3))))) else bif Nat.beq (sk i) 17 then .inl (17, 16, .inr (.inr (.inr (.inr (rfN (sr i) 16))))) else jm h i
def bas (h : jH) (N : Nat) : Nat → va_E := fun i => if i < N ∨ 1000000 ≤ i then jn h i else jJ
def ovr : List (Nat × va_E) → (Nat → va_E) → Nat → va_E
  | [], f => f
  | (b, p) :: ex, f => va_up (ovr ex f) b p
def ovg : List (Nat × va_E) → Nat → Option va_E
  | [], _ => none
  | (b, p) :: ex, i => bif Nat.beq i b then some p else ovg ex i
def ovs : List (Nat × va_E) → Nat → va_E → List (Nat × va_E)
  | [], _, _ => []
  | (b, p) :: ex, i, c => bif Nat.beq i b then (b, c) :: ex else (b, p) :: ovs ex i c
def ovk (ex : List (Nat × va_E)) (N : Nat) : Bool := ex.all (fun p => Nat.blt p.1 N)
def mkL (h : jH) (ex : List (Nat × va_E)) (N S : Nat) : jG := (ovr ex (bas h N), N, S)
theorem ovr_g {f : Nat → va_E} {i : Nat} : ∀ ex, ovr ex f i = (ovg ex i).getD (f i) := by
  intro ex
  induction ex with
  | nil => rfl
  | cons p ex ih =>
    obtain ⟨b, p⟩ := p
    show (if i = b then p else ovr ex f i) = (bif Nat.beq i b then some p else ovg ex i).getD (f i)
    by_cases e : i = b
    · rw [if_pos e, show Nat.beq i b = true by rw [e]; exact Nat.beq_refl b]; rfl
    · rw [if_neg e, show Nat.beq i b = false from Bool.eq_false_iff.mpr (fun z => e (Nat.eq_of_beq_eq_true z))]; exact ih
theorem ovr_s {f : Nat → va_E} {a : Nat} {c o : va_E} : ∀ ex, ovg ex a = some c → va_up (ovr ex f) a o = ovr (ovs ex a o) f := by
  intro ex
  induction ex with
  | nil => intro h; cases h
  | cons p ex ih =>
    obtain ⟨b, p⟩ := p
    intro h
    by_cases e : a = b
    · subst e
      have eb : Nat.beq a a = true := Nat.beq_refl a
      show va_up (va_up (ovr ex f) a p) a o = ovr (bif Nat.beq a a then (a, o) :: ex else (a, p) :: ovs ex a o) f
      rw [eb]
      show va_up (va_up (ovr ex f) a p) a o = va_up (ovr ex f) a o
      funext i
      unfold va_up
      by_cases z : i = a
      · rw [if_pos z, if_pos z]
      · rw [if_neg z, if_neg z, if_neg z]
    · have eb : Nat.beq a b = false := Bool.eq_false_iff.mpr (fun z => e (Nat.eq_of_beq_eq_true z))
      have h2 : ovg ex a = some c := by
        have z : (bif Nat.beq a b then some p else ovg ex a) = some c := h
        rw [eb] at z
        exact z
      show va_up (va_up (ovr ex f) b p) a o = ovr (bif Nat.beq a b then (b, o) :: ex else (b, p) :: ovs ex a o) f
      rw [eb]
      show va_up (va_up (ovr ex f) b p) a o = va_up (ovr (ovs ex a o) f) b p
      rw [← ih h2]
      funext i
      unfold va_up
      by_cases z : i = a
      · rw [if_pos z, if_neg (by omega), if_pos z]
      · rw [if_neg z, if_neg z]
theorem ovg_n {N i : Nat} (hi : N ≤ i) : ∀ ex, ovk ex N = true → ovg ex i = none := by
  intro ex
  induction ex with
  | nil => intro _; rfl
  | cons p ex ih =>
    obtain ⟨b, p⟩ := p
    intro h
    have h2 : (Nat.blt b N && ovk ex N) = true := h
    rw [Bool.and_eq_true] at h2
    have hb : b < N := Nat.le_of_ble_eq_true h2.1
    show (bif Nat.beq i b then some p else ovg ex i) = none
    rw [show Nat.beq i b = false from Bool.eq_false_iff.mpr (fun z => by have := Nat.eq_of_beq_eq_true z; omega)]
    exact ih h2.2
section ML
variable {h : jH} {ex ex1 : List (Nat × va_E)} {N S T a : Nat} {c o : va_E}
theorem mkL_g (e : ovg ex a = some c) : (mkL h ex N S).1 a = c := by
  show ovr ex (bas h N) a = c
  rw [ovr_g, e]
  rfl
theorem mkL_b {i : Nat} (e : ovg ex i = none) (hi : i < N ∨ 1000000 ≤ i) : (mkL h ex N S).1 i = jn h i := by
  show ovr ex (bas h N) i = _
  rw [ovr_g, e]
  exact if_pos hi
theorem mkL_s (e : ovg ex a = some c) (e1 : ovs ex a o = ex1) : jup (mkL h ex N S) a o = mkL h ex1 N S := by
  subst e1
  show ((va_up (ovr ex (bas h N)) a o, N, S) : jG) = (ovr (ovs ex a o) (bas h N), N, S)
  rw [ovr_s ex e]
theorem mkL_new (k : ovk ex N = true) (hN : N < 1000000) : ((va_up (mkL h ex N S).1 N c, N + 1, T) : jG) = mkL h ((N, c) :: ex) (N + 1) T := by
  refine Prod.ext (funext fun i => ?_) rfl
  show (if i = N then c else ovr ex (bas h N) i) = (if i = N then c else ovr ex (bas h (N + 1)) i)
  by_cases e : i = N
  · rw [if_pos e, if_pos e]
  · rw [if_neg e, if_neg e, ovr_g, ovr_g]
    have : bas h N i = bas h (N + 1) i := by
      unfold bas
      by_cases z : i < N ∨ 1000000 ≤ i
      · rw [if_pos z, if_pos (by omega)]
      · rw [if_neg z, if_neg (by omega)]
    rw [this]
theorem mkL_drop {b : Nat} (hb : b < N) (e : jn h b = c) (k : ovg ex b = none) : mkL h ((b, c) :: ex) N S = mkL h ex N S := by
  refine Prod.ext (funext fun i => ?_) rfl
  show (if i = b then c else ovr ex (bas h N) i) = ovr ex (bas h N) i
  by_cases z : i = b
  · subst z
    rw [if_pos rfl, ovr_g, k]
    show c = bas h N i
    unfold bas
    rw [if_pos (Or.inl hb), e]
  · rw [if_neg z]
theorem mkL_ret {q S2 : Nat} {o2 : va_E} {ds2 : List va_E} (k : ovk ex q = true) (hb : (o2 :: ds2) = (List.range (ds2.length + 1)).map (fun k => jn h (q + k))) (hl : q + 1 + ds2.length ≤ 1000000) : mkG (mkL h ((q, c) :: ex) (q + 1) S).1 q o2 (q + 1) ds2 S2 = mkL h ex (q + 1 + ds2.length) S2 := by
  have hk : ∀ k, k < ds2.length + 1 → (o2 :: ds2)[k]? = some (jn h (q + k)) := fun k hk => by
    rw [hb]
    simp [hk]
  refine Prod.ext (funext fun i => ?_) rfl
  show (if i = q then o2 else if q + 1 ≤ i then (ds2[i - (q + 1)]?).getD (va_up (ovr ex (bas h (q + 1))) q c i) else va_up (ovr ex (bas h (q + 1))) q c i) = ovr ex (bas h (q + 1 + ds2.length)) i
  by_cases e : i = q
  · subst e
    rw [if_pos rfl, ovr_g, ovg_n (Nat.le_refl _) ex k]
    show o2 = bas h (i + 1 + ds2.length) i
    unfold bas
    rw [if_pos (Or.inl (by omega))]
    have z := hk 0 (by omega)
    exact Option.some.inj z
  · have ev : va_up (ovr ex (bas h (q + 1))) q c i = ovr ex (bas h (q + 1)) i := if_neg e
    rw [if_neg e, ev]
    by_cases e2 : q + 1 ≤ i
    · rw [if_pos e2, ovr_g, ovr_g, ovg_n (show q ≤ i by omega) ex k]
      show (ds2[i - (q + 1)]?).getD (bas h (q + 1) i) = bas h (q + 1 + ds2.length) i
      by_cases e3 : i - (q + 1) < ds2.length
      · have z := hk (i - (q + 1) + 1) (by omega)
        have z2 : ds2[i - (q + 1)]? = some (jn h (q + (i - (q + 1) + 1))) := z
        rw [z2, show q + (i - (q + 1) + 1) = i by omega]
        show jn h i = bas h (q + 1 + ds2.length) i
        unfold bas
        rw [if_pos (Or.inl (by omega))]
      · rw [List.getElem?_eq_none (by omega)]
        show bas h (q + 1) i = _
        unfold bas
        by_cases z : 1000000 ≤ i
        · rw [if_pos (Or.inr z), if_pos (Or.inr z)]
        · rw [if_neg (by omega), if_neg (by omega)]
    · rw [if_neg e2, ovr_g, ovr_g]
      have : bas h (q + 1) i = bas h (q + 1 + ds2.length) i := by
        unfold bas
        rw [if_pos (by omega), if_pos (by omega)]
      rw [this]
end ML
section XL
variable {l : Launch} {j pc : Nat} {L : jLo} {st : List Value} {v : Option Value} {G' : jG} {h : jH} {ex ex1 : List (Nat × va_E)} {N S T a : Nat} {o c : va_E}
theorem xl_new {idx c9 K : Nat} (hi : jIns j pc = some (.new idx, 3, c9)) (hK : (jdv c9).length = K) (hT : S + K = T) (k0 : ovk ex N = true) (hN : N < 1000000) (hb1 : N + 1 ≤ G'.2.1) (hb2 : T ≤ G'.2.2) (k : jE l j (pc + 3) L (.ref N :: st) (mkL h ((N, .inr (c9, jdv c9)) :: ex) (N + 1) T) v G') : jE l j pc L st (mkL h ex N S) v G' := by
  subst hT hK
  refine je_new hi hN hb1 hb2 ?_
  have e := mkL_new (h := h) (S := S) (T := S + (jdv c9).length) (c := .inr (c9, jdv c9)) k0 hN
  show jE l j (pc + 3) L (.ref N :: st) (va_up (mkL h ex N S).1 N (.inr (c9, jdv c9)), N + 1, S + (jdv c9).length) v G'
  rw [e]
  exact k
theorem xl_newai {z : Int} {M : Nat} (hi : jIns j pc = some (.newarray .int, 2, 0)) (h0 : 0 ≤ z) (h1 : z ≤ 60000) (hz : z.toNat = M) (hT : S + M = T) (k0 : ovk ex N = true) (hN : N < 1000000) (hb1 : N + 1 ≤ G'.2.1) (hb2 : T ≤ G'.2.2) (hc : jn h N = .inl (13, M, .inl (fun _ => 0))) (k : jE l j (pc + 2) L (.ref N :: st) (mkL h ex (N + 1) T) v G') : jE l j pc L (.int (jI z) :: st) (mkL h ex N S) v G' := by
  subst hT hz
  refine je_newai hi h0 h1 hN hb1 hb2 ?_
  have e := mkL_new (h := h) (S := S) (T := S + z.toNat) (c := .inl (13, z.toNat, .inl (fun _ => 0))) k0 hN
  rw [mkL_drop (by omega) hc (ovg_n (Nat.le_refl _) ex k0)] at e
  show jE l j (pc + 2) L (.ref N :: st) (va_up (mkL h ex N S).1 N (.inl (13, z.toNat, .inl (fun _ => 0))), N + 1, S + z.toNat) v G'
  rw [e]
  exact k
theorem xl_newax {z : Int} {M : Nat} (hi : jIns j pc = some (.newarray .int, 2, 0)) (h0 : 0 ≤ z) (h1 : z ≤ 60000) (hz : z.toNat = M) (hT : S + M = T) (k0 : ovk ex N = true) (hN : N < 1000000) (hb1 : N + 1 ≤ G'.2.1) (hb2 : T ≤ G'.2.2) (k : jE l j (pc + 2) L (.ref N :: st) (mkL h ((N, .inl (13, M, .inl (fun _ => 0))) :: ex) (N + 1) T) v G') : jE l j pc L (.int (jI z) :: st) (mkL h ex N S) v G' := by
  subst hT hz
  refine je_newai hi h0 h1 hN hb1 hb2 ?_
  have e := mkL_new (h := h) (S := S) (T := S + z.toNat) (c := .inl (13, z.toNat, .inl (fun _ => 0))) k0 hN
  show jE l j (pc + 2) L (.ref N :: st) (va_up (mkL h ex N S).1 N (.inl (13, z.toNat, .inl (fun _ => 0))), N + 1, S + z.toNat) v G'
  rw [e]
  exact k
theorem xl_newal {z : Int} {M : Nat} (hi : jIns j pc = some (.newarray .long, 2, 0)) (h0 : 0 ≤ z) (h1 : z ≤ 60000) (hz : z.toNat = M) (hT : S + M = T) (k0 : ovk ex N = true) (hN : N < 1000000) (hb1 : N + 1 ≤ G'.2.1) (hb2 : T ≤ G'.2.2) (k : jE l j (pc + 2) L (.ref N :: st) (mkL h ((N, .inl (14, M, .inr (.inl (fun _ => 0)))) :: ex) (N + 1) T) v G') : jE l j pc L (.int (jI z) :: st) (mkL h ex N S) v G' := by
  subst hT hz
  refine je_newal hi h0 h1 hN hb1 hb2 ?_
  have e := mkL_new (h := h) (S := S) (T := S + z.toNat) (c := .inl (14, z.toNat, .inr (.inl (fun _ => 0)))) k0 hN
  show jE l j (pc + 2) L (.ref N :: st) (va_up (mkL h ex N S).1 N (.inl (14, z.toNat, .inr (.inl (fun _ => 0)))), N + 1, S + z.toNat) v G'
  rw [e]
  exact k
theorem xl_newq {idx kd : Nat} {z : Int} {M : Nat} (g : Nat → Nat) (hi : jIns j pc = some (.anewarray idx, 3, kd)) (h0 : 0 ≤ z) (h1 : z ≤ 60000) (hz : z.toNat = M) (hT : S + M = T) (k0 : ovk ex N = true) (hN : N < 1000000) (hb1 : N + 1 ≤ G'.2.1) (hb2 : T ≤ G'.2.2) (k : jE l j (pc + 3) L (.ref N :: st) (mkL h ((N, .inl (kd, M, .inr (.inr (.inr (.inr (rfN g 0)))))) :: ex) (N + 1) T) v G') : jE l j pc L (.int (jI z) :: st) (mkL h ex N S) v G' := by
  subst hT hz
  refine je_newq hi h0 h1 hN hb1 hb2 ?_
  have e := mkL_new (h := h) (S := S) (T := S + z.toNat) (c := .inl (kd, z.toNat, .inr (.inr (.inr (.inr (fun _ => none)))))) k0 hN
  show jE l j (pc + 3) L (.ref N :: st) (va_up (mkL h ex N S).1 N (.inl (kd, z.toNat, .inr (.inr (.inr (.inr (fun _ => none)))))), N + 1, S + z.toNat) v G'
  rw [e]
  exact k
theorem xl_putF {b idx f9 : Nat} {fs : List Value} {dn : String} {ty : FieldType} (hi : jIns j pc = some (.putfield idx, 3, f9)) (hk : jfd f9 = some (jOw j, dn, true)) (hin : (jY j).name = "<init>") (hty : parseFieldDescriptor dn = some ty) (hr9 : (∃ n, ty = .object n) ∨ ∃ t, ty = .array t) (ho : ovg ex a = some (.inr (f9 / 1000, fs))) (hl : f9 % 1000 < fs.length) (e1 : ovs ex a (.inr (f9 / 1000, fs.set (f9 % 1000) (.ref b))) = ex1) (k : jE l j (pc + 3) L st (mkL h ex1 N S) v G') : jE l j pc L (.ref b :: .ref a :: st) (mkL h ex N S) v G' := by
  refine je_putF hi hk hin hty hr9 (mkL_g ho) hl ?_
  rw [mkL_s ho e1]
  exact k
theorem xl_puti {idx f9 : Nat} {fs : List Value} {x : Int32} {cn : String} (hi : jIns j pc = some (.putfield idx, 3, f9)) (hk : jfd f9 = some (cn, "I", false)) (ho : ovg ex a = some (.inr (f9 / 1000, fs))) (hl : f9 % 1000 < fs.length) (e1 : ovs ex a (.inr (f9 / 1000, fs.set (f9 % 1000) (.int x))) = ex1) (k : jE l j (pc + 3) L st (mkL h ex1 N S) v G') : jE l j pc L (.int x :: .ref a :: st) (mkL h ex N S) v G' := by
  refine je_puti hi hk (mkL_g ho) hl ?_
  rw [mkL_s ho e1]
  exact k
theorem xl_getf {idx f9 : Nat} {fs : List Value} {w : Value} (hi : jIns j pc = some (.getfield idx, 3, f9)) (ho : ovg ex a = some (.inr (f9 / 1000, fs))) (hv : fs[f9 % 1000]? = some w) (k : jE l j (pc + 3) L (w :: st) (mkL h ex N S) v G') : jE l j pc L (.ref a :: st) (mkL h ex N S) v G' := je_getf hi (mkL_g ho) hv k
theorem xl_iast {M zn : Nat} {f : Nat → Int32} {z : Int} {x : Int32} (hi : jIns j pc = some (.iastore, 1, 0)) (ho : ovg ex a = some (.inl (13, M, .inl f))) (h0 : 0 ≤ z) (h1 : z < (M : Int)) (hn : M ≤ 2147483647) (hz : z.toNat = zn) (e1 : ovs ex a (.inl (13, M, .inl (upd f zn x))) = ex1) (k : jE l j (pc + 1) L st (mkL h ex1 N S) v G') : jE l j pc L (.int x :: .int (jI z) :: .ref a :: st) (mkL h ex N S) v G' := by
  subst hz
  refine je_iast hi (mkL_g ho) h0 h1 hn ?_
  rw [mkL_s ho e1]
  exact k
theorem xl_last {M zn : Nat} {f : Nat → Int64} {z : Int} {x : Int64} (hi : jIns j pc = some (.lastore, 1, 0)) (ho : ovg ex a = some (.inl (14, M, .inr (.inl f)))) (h0 : 0 ≤ z) (h1 : z < (M : Int)) (hn : M ≤ 2147483647) (hz : z.toNat = zn) (e1 : ovs ex a (.inl (14, M, .inr (.inl (vp_updL f zn x)))) = ex1) (k : jE l j (pc + 1) L st (mkL h ex1 N S) v G') : jE l j pc L (.long x :: .int (jI z) :: .ref a :: st) (mkL h ex N S) v G' := by
  subst hz
  refine je_last hi (mkL_g ho) h0 h1 hn ?_
  rw [mkL_s ho e1]
  exact k
theorem xl_aast {M kd ci b zn : Nat} {f : Nat → Option Nat} {vs : List Value} {z : Int} (hi : jIns j pc = some (.aastore, 1, 0)) (hkd : (kd = 16 ∧ ci = 8) ∨ (kd = 17 ∧ ci = 9)) (ho : ovg ex a = some (.inl (kd, M, .inr (.inr (.inr (.inr f)))))) (hb : (mkL h ex N S).1 b = .inr (ci, vs)) (h0 : 0 ≤ z) (h1 : z < (M : Int)) (hn : M ≤ 2147483647) (hz : z.toNat = zn) (e1 : ovs ex a (.inl (kd, M, .inr (.inr (.inr (.inr (va_up f zn (some b))))))) = ex1) (k : jE l j (pc + 1) L st (mkL h ex1 N S) v G') : jE l j pc L (.ref b :: .int (jI z) :: .ref a :: st) (mkL h ex N S) v G' := by
  subst hz
  refine je_aast hi hkd (mkL_g ho) hb h0 h1 hn ?_
  rw [mkL_s ho e1]
  exact k
theorem xl_callI {idx j2 q S2 M : Nat} {as rest stk : List Value} {o2 : va_E} {ds2 : List va_E} (hi : jIns j pc = some (.invokespecial idx, 3, j2)) (hj2 : j2 < 359) (hk : Nat.blt (jK j2) (jK j) = true) (k0 : ovk ex q = true) (hM : ∀ F', jCl l j2 (.ref q :: as) (mkG F' q c (q + 1) [] S) none (mkG F' q o2 (q + 1) ds2 S2)) (hb : (o2 :: ds2) = (List.range (ds2.length + 1)).map (fun k => jn h (q + k))) (hN : q + 1 + ds2.length = M) (hT : S2 = T) (hl6 : M ≤ 1000000) (hl : as.length = jNp j2) (hst : (rest.map fun v => v.category).sum ≤ 8) (hb1 : M ≤ G'.2.1) (hb2 : T ≤ G'.2.2) (hsk : stk = as.reverse ++ .ref q :: rest) (k : jE l j (pc + 3) L rest (mkL h ex M T) v G') : jE l j pc L stk (mkL h ((q, c) :: ex) (q + 1) S) v G' := by
  subst hN hT
  have hc : (mkL h ((q, c) :: ex) (q + 1) S).1 q = c := mkL_g (by show (bif Nat.beq q q then some c else ovg ex q) = some c; rw [Nat.beq_refl]; rfl)
  have hM1 := hM (mkL h ((q, c) :: ex) (q + 1) S).1
  rw [mkL_ret k0 hb hl6] at hM1
  have e := mkG_self (G := mkL h ((q, c) :: ex) (q + 1) S) hc
  change mkG (mkL h ((q, c) :: ex) (q + 1) S).1 q c (q + 1) [] S = _ at e
  rw [e] at hM1
  exact je_callI hi hj2 hk hM1 hl hst hb1 hb2 hsk k
end XL
