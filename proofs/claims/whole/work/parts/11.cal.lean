/-! contracts and calls -/
def jPre (D : va_G) (dA : Nat → ClassId) (base : Nat) (ro : Nat → Nat) (G : jG) (U : State) : Prop :=
  va_P D vwCl (jWs dA base ro G) U.heap ∧ va_K D vwCl (jTy dA) U ∧ U.heap.size = base + G.2.1 ∧ (∀ i, G.2.1 ≤ i → i < 1000000 → G.1 i = jJ) ∧ G.2.1 ≤ 1000000 ∧ jRO base ro G U U.heap ∧ jEv base ro U U.heap
def jQr (D : va_G) (dA : Nat → ClassId) (base : Nat) (ro : Nat → Nat) (v : Option Value) (G' : jG) : Array Value → State → Outcome → State → Prop := fun _ st oc t =>
  oc = .returned (v.map (jv (jad base ro))) ∧ va_P D vwCl (jWs dA base ro G') t.heap ∧ va_F (jB base) st t ∧ (∀ i, G'.2.1 ≤ i → i < 1000000 → G'.1 i = jJ) ∧ G'.2.1 ≤ 1000000 ∧ jRO base ro G' t t.heap
def jWd (j : Nat) : List Cond := .code (jY j) (jC j) (jM j) (jR j) :: jTb
def jRm (j mc ms : Nat) : Room := { frames := jK j, cells := mc, slots := ms, locals := 36 * jK j }
def jCl (l : Launch) (j : Nat) (av : List Value) (G : jG) (v : Option Value) (G' : jG) : Prop :=
  G.2.1 ≤ G'.2.1 ∧ G.2.2 ≤ G'.2.2 ∧ ∀ (D : va_G) (dA : Nat → ClassId) (base : Nat) (ro : Nat → Nat), Met l (jY j) (jWd j) (jRm j (G'.2.1 - G.2.1) (G'.2.2 - G.2.2)) (va_Pc (av.map (jv (jad base ro))) (jPre D dA base ro G)) (jQr D dA base ro v G') (G'.2.1 - G.2.1) (G'.2.2 - G.2.2) (jB base)
theorem jRO_moved {base : Nat} {ro : Nat → Nat} {G : jG} {u U : State} {H H1 : Heap} (hvm : u.vm.Alike U.vm) (hq : ∀ q, q < H.size → ¬ jB base q → H1[q]? = H[q]?) (h : jRO base ro G u H) : jRO base ro G U H1 := by
  intro i hi
  rcases h i hi with z | ⟨n, xs, z1, z2⟩
  · exact Or.inl z
  · exact Or.inr ⟨n, xs, z1, (z2.moved hvm).kept hq⟩
theorem jEv_moved {base : Nat} {ro : Nat → Nat} {s U : State} {H H1 : Heap} (hW : s.WarmedH U.vm) (hq : ∀ q, q < H.size → ¬ jB base q → H1[q]? = H[q]?) (h : jEv base ro s H) : jEv base ro U H1 := by
  obtain ⟨h1, ⟨adV, h2⟩, h3, h4, h5, h6, h7⟩ := h
  exact ⟨fun k hk => ((h1 k hk).moved hW.alike).kept hq, ⟨adV, (vk_S.moved hW.alike h2).kept hq⟩, fun k hk => (h3 k hk).warm hW, (h4.moved hW.alike).kept hq, (h5.moved hW.alike).kept hq, h6.moved hW.alike, h7.moved hW.alike⟩
theorem jEv_same {base : Nat} {ro : Nat → Nat} {u U : State} {H : Heap} (hv : U.vm = u.vm) (h : jEv base ro u H) : jEv base ro U H := by
  obtain ⟨h1, ⟨adV, h2⟩, h3, h4, h5, h6, h7⟩ := h
  have ha : u.vm.Alike U.vm := by rw [hv]; exact Vm.Alike.refl u.vm
  exact ⟨fun k hk => (h1 k hk).moved ha, ⟨adV, vk_S.moved ha h2⟩, fun k hk => vk_R.same hv (h3 k hk), h4.moved ha, h5.moved ha, h6.moved ha, h7.moved ha⟩
theorem jPre_blind {D : va_G} {dA : Nat → ClassId} {base : Nat} {ro : Nat → Nat} {G : jG} {av : List Value} : FrameBlind (va_Pc av (jPre D dA base ro G)) := by
  intro a U g mk h
  obtain ⟨h0, h1, h2, h3, h4, h5, h6, h7⟩ := h
  exact ⟨h0, h1, va_K.moved (u := U) (U := U.calling g mk a) (Vm.Alike.refl U.vm) h2, h3, h4, h5, jRO_moved (u := U) (U := U.calling g mk a) (Vm.Alike.refl U.vm) (fun _ _ _ => rfl) h6, jEv_same (u := U) (U := U.calling g mk a) rfl h7⟩
/-- the locals at the entry -/
def jen (av : List Value) : jLo := av.flatMap fun v => if v.category = 2 then [some v, none] else [some v]
def jent (n : Nat) (av : List Value) : jLo := jen av ++ List.replicate (n - (jen av).length) none
theorem jen_len (ad : Nat → Nat) (av : List Value) : (jen av).length = (lg_sl (av.map (jv ad))).length := by
  induction av with
  | nil => rfl
  | cons a l ih =>
    simp only [jen, lg_sl, List.map_cons, List.flatMap_cons, List.length_append] at ih ⊢
    rw [jv_cat, ih]
    by_cases h : a.category = 2 <;> simp [h]
theorem jen_get (ad : Nat → Nat) (av : List Value) : ∀ (q i : Nat) (w : Value), (jen av)[i]? = some (some w) → (q + i, jv ad w) ∈ lv_args q (av.map (jv ad)) := by
  induction av with
  | nil => intro q i w h; simp [jen] at h
  | cons a l ih =>
    intro q i w h
    simp only [List.map_cons, lv_args]
    rw [jv_cat]
    by_cases hc : a.category = 2
    · have e : jen (a :: l) = some a :: none :: jen l := by simp [jen, hc]
      rw [e] at h
      match i, h with
      | 0, h => cases h; exact List.mem_cons_self
      | 1, h => cases h
      | i + 2, h =>
        rw [if_pos hc]
        have := ih (q + 2) i w (by simpa using h)
        rw [show q + (i + 2) = q + 2 + i by omega]
        exact List.mem_cons_of_mem _ this
    · have e : jen (a :: l) = some a :: jen l := by simp [jen, hc]
      rw [e] at h
      match i, h with
      | 0, h => cases h; exact List.mem_cons_self
      | i + 1, h =>
        rw [if_neg hc]
        have := ih (q + 1) i w (by simpa using h)
        rw [show q + (i + 1) = q + 1 + i by omega]
        exact List.mem_cons_of_mem _ this
theorem jent_ls {ad : Nat → Nat} {n : Nat} {av : List Value} (h : (jen av).length ≤ n) : jLs ad ((lg_sl (av.map (jv ad)) ++ List.replicate (n - (lg_sl (av.map (jv ad))).length) Slot.unset).toArray) n (jent n av) := by
  have h1 := lv_entry (av.map (jv ad)) (n := n) (by rw [← jen_len]; exact h)
  refine ⟨h1.1, h1.2.1, by simp [jent]; omega, fun i w hw => ?_⟩
  unfold jent at hw
  by_cases hi : i < (jen av).length
  · rw [List.getElem?_append_left hi] at hw
    have := jen_get ad av 0 i w hw
    rw [Nat.zero_add] at this
    exact h1.2.2 _ this
  · rw [List.getElem?_append_right (by omega), List.getElem?_replicate] at hw
    split at hw <;> cases hw
/-- what the return's type asks of the answer -/
def jRo (j : Nat) (v : Option Value) : Prop := match v with
  | none => jR j = none
  | some (.int x) => ∃ ty, jR j = some ty ∧ narrow ty (.int x) = .int x
  | some w => ∃ rt, jR j = some rt ∧ ((∃ n, rt = .object n) ∨ ∃ t, rt = .array t)
theorem jmok {j : Nat} (hj : j < 359) : (.code (jY j) (jC j) (jM j) (jR j) ∈ jTb) ∧ (.initialized (jY j).cls ∈ jTb) ∧ plainFor (jY j) = true ∧ ((jY j).cls ≠ "java/lang/invoke/MethodHandle" ∧ (jY j).cls ≠ "java/lang/invoke/VarHandle" ∧ (parseMethodDescriptor (jY j).desc).map (fun d => d.parameters.length) = some (jNp j)) ∧ (jSta j = true → .static (jY j) ∈ jTb) ∧ (jSta j = false → .instanceMethod (jY j) ∈ jTb) ∧ (jSta j = false → jSel j = true → .selects (jY j).cls (jY j) (jY j) ∈ jTb) := by
  have h := jm_lt hj
  unfold jmOKx at h
  unfold jNp jSta jSel
  cases e : jMt[j]? with
  | none => rw [e] at h; cases h
  | some r =>
    obtain ⟨c, i, b, sl, st, np⟩ := r
    rw [e] at h
    simp only [Bool.and_eq_true, decide_eq_true_eq] at h
    obtain ⟨h2, h3, h4, h5⟩ := h
    refine ⟨jmc_lt hj, jAt_mem h2, h5, h4, fun q => ?_, fun q => ?_, fun q q2 => ?_⟩
    · simp only at q
      rw [q] at h3
      exact jAt_mem h3
    · simp only at q
      rw [q] at h3
      simp only [cond_false, Bool.and_eq_true] at h3
      exact jAt_mem h3.1
    · simp only at q q2
      rw [q] at h3
      simp only [cond_false, Bool.and_eq_true] at h3
      have q3 : Nat.beq sl 9999 = false := by simpa using q2
      rw [q3] at h3
      exact jAt_mem h3.2
/-- a contract out of a walk, for a method that no row of natives stands for -/
theorem jofW {l : Launch} {y : MethodName} {ws ws' : List Cond} {rm : Room} {Pc : Array Value → State → Prop} {Qc : Array Value → State → Outcome → State → Prop} {mc ms : Nat} {free : Addr → Prop} {cc : ByteArray} {maxL : Nat} {ret : Option FieldType}
    (hy : plainFor y = true) (hw : ws = Cond.code y cc maxL ret :: ws')
    (body : ∀ p e s m args below meth c s₁, BodyLoose p l y (headSpec ws rm) cc maxL ret e s m args below meth c s₁ → c.maxLocals = maxL → Pc args s →
      W p l e (headSpec ws rm).room s m args below meth c s.heap [] 0 0 (MQ below Qc args s mc ms free) (entryFrame m args maxL)) : Met l y ws rm Pc Qc mc ms free := by
  refine MetFree.of_bodySF (code := cc) (maxLocals := maxL) (ret := ret) hy (fun args s m h hn => ?_) (fun p e s m args below meth c s₁ B hml hP _ => ?_)
  · obtain ⟨meth, c, h1, h2, h3, h4, h5, h6, -, -⟩ := Cond.code_spec hn (atoms_spec (ws := ws) h _ (by rw [hw]; exact List.mem_cons_self))
    exact ⟨meth, c, h1, h2, h3, h4, h5, h6⟩
  · obtain ⟨t, a1, o, b1, b2, b3⟩ := body p e s m args below meth c s₁ B hml hP s₁ (by rw [B.state]; rfl) (Stand.of_body B)
    exact ⟨t, o, a1, b1, b2, b3.1, b3.2⟩
theorem jCl.of {l : Launch} {j : Nat} {av : List Value} {G G' : jG} {v : Option Value} (hj : j < 359) (hlen : (jen av).length ≤ jM j) (hN : G.2.1 ≤ G'.2.1) (hS : G.2.2 ≤ G'.2.2) (hro : jRo j v) (hE : jE l j 0 (jent (jM j) av) [] G v G') : jCl l j av G v G' := by
  refine ⟨hN, hS, fun D dA base ro => ?_⟩
  obtain ⟨m1, m2, m3, m4, -⟩ := jmok hj
  refine jofW (cc := jC j) (maxL := jM j) (ret := jR j) m3 rfl ?_
  intro p e s m args below meth c s₁ B hml hv
  obtain ⟨rfl, hP, hK, hsz, hjk, hN6, hRO, hEv⟩ := hv
  have hts := atoms_spec (ws := jWd j) B.pre
  have hown : s.vm.findClass (jY j).cls = some m.cls := findClass_of_methodNamed B.named
  have hnm : meth.name = (jY j).name := (name_of_methodNamed B.named B.method).1
  rw [lg_entry_eq]
  have hr := B.returns
  have hlk := B.notSynchronized
  refine hE p e _ s m _ below meth c D dA base ro G.2.1 G.2.2 _ _ s.heap [] 0 0 ⟨B.exec, B.bytes, hml, ?_, fun w hw => hts w (List.mem_cons_of_mem _ hw), hK, by omega, Nat.le_refl _, Nat.le_refl _, fun h9 => hnm.trans h9, hEv, hlk⟩ (by show G'.2.1 ≤ G.2.1 + (G'.2.1 - G.2.1); omega) (by show G'.2.2 ≤ G.2.2 + (G'.2.2 - G.2.2); omega) ?_ (jent_ls hlen) ⟨hP, va_S.rf, hsz, rfl, rfl, hjk, hN6, hRO⟩
  · exact hown
  · intro pcr lsr sr H' locs' cells' slots' hrt hI'
    obtain ⟨i1, i2, i3, i4, i5, i6, i7, i8⟩ := hI'
    have c1 : cells' = G'.2.1 - G.2.1 := by omega
    have c2 : slots' = G'.2.2 - G.2.2 := by omega
    subst c1 c2
    have hq : ∀ t : State, t.heap = H' → s.WarmedH t.vm → jQr D dA base ro v G' (av.map (jv (jad base ro))).toArray s (.returned (v.map (jv (jad base ro)))) t := fun t ht hW => by
      refine ⟨rfl, by rw [ht]; exact i1, i2.F ht, i6, i7, ?_⟩
      rw [ht]
      exact jRO_moved hW.alike i2.2.1 i8
    match v, hrt, hro, hq with
    | none, ⟨r1, r2⟩, hro, hq =>
      subst r2
      exact W.vret B.exec B.bytes (hr.trans hro) hq i2.2.2 (jdec r1).1
    | some (.int x), ⟨r1, r2⟩, ⟨ty, t1, t2⟩, hq =>
      subst r2
      exact W.zret B.exec B.bytes (hr.trans t1) t2 hq i2.2.2 (jdec r1).1
    | some (.ref a), ⟨r1, r2, _⟩, ⟨rt, t1, t2⟩, hq =>
      subst r2
      exact W.aret B.exec B.bytes (hr.trans t1) t2 (Or.inr ⟨_, rfl⟩) hq i2.2.2 (jdec r1).1
    | some (.long x), ⟨r1, r2, a, r3⟩, _, _ => cases r3
    | some (.float x), ⟨r1, r2, a, r3⟩, _, _ => cases r3
    | some (.double x), ⟨r1, r2, a, r3⟩, _, _ => cases r3
    | some .null, ⟨r1, r2, a, r3⟩, _, _ => cases r3
    | some (.retAddr x), ⟨r1, r2, a, r3⟩, _, _ => cases r3
