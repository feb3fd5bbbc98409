/-! calls, new cells -/
theorem jM17 {j : Nat} (h : j < 359) : jM j ≤ 17 := Nat.le_of_ble_eq_true (List.all_eq_true.mp jM_le j (List.mem_range.mpr h))
theorem jTb_in {w : Cond} (h : w ∈ jTb) : w ∈ jTb ∧ ((w.onTables && w.keeps) = true ∨ ∃ ty, w = .arrayClass ty) := ⟨h, (jTb_good h).2⟩
section JX
variable {p : Program} {l : Launch} {e : Env} {R : Room} {s : State} {m : MethodId} {args : Array Value} {below : List Frame} {meth : Method} {c : Code} {H : Heap} {locs : List Loc} {cells slots : Nat} {Q : State → Prop} {D : va_G} {dA : Nat → ClassId} {base : Nat} {ro : Nat → Nat} {G G1 : jG} {N0 S0 : Nat}
theorem jx_lo (hI : jIv D dA base ro s G H locs cells slots N0 S0) : base + G.2.1 ≤ H.size := by
  obtain ⟨i1, i2, i3, i4, -⟩ := hI
  rcases Nat.eq_zero_or_pos G.2.1 with h | h
  · have := i2.1
    omega
  · have := (i1 (G.2.1 - 1) _ (jWs_get (by omega))).lt
    simp only at this
    omega
theorem jx_size {g : JFrame} (hI : jIv D dA base ro s G H locs cells slots N0 S0) (k : H.size = base + G.2.1 → W p l e R s m args below meth c H locs cells slots Q g) : W p l e R s m args below meth c H locs cells slots Q g := by
  intro T hT X
  have h1 := X.heapSize
  rw [hT] at h1
  have h2 := jx_lo hI
  have i3 := hI.2.2.1
  have i4 := hI.2.2.2.1
  exact k (by omega) T hT X
theorem jx_run {pc mc ms : Nat} {ls : Array Slot} {st0 rest : List Value} {r : Option Value} {a : Array Value} (hr : va_Run p l e R s m args below meth c H locs cells slots mc ms (F0 m pc ls st0) rest (jQr D dA base ro r G1 a) (jB base)) (hI : jIv D dA base ro s G H locs cells slots N0 S0) (hG : G.2.1 + mc = G1.2.1) (hG2 : G.2.2 + ms = G1.2.2)
    (kk : ∀ (H1 : Heap) (locs1 : List Loc), jIv D dA base ro s G1 H1 locs1 (cells + mc) (slots + ms) N0 S0 → W p l e R s m args below meth c H1 locs1 (cells + mc) (slots + ms) Q (F0 m (pc + 3) ls ((r.map (jv (jad base ro))).toList ++ rest))) : W p l e R s m args below meth c H locs cells slots Q (F0 m pc ls st0) := by
  intro T hT X
  obtain ⟨v, st₀, t, T', Lc, h0, X', hLc, e1, e2, ⟨hv, hP1, hF, hj1, hN1, hRO1⟩, stp⟩ := hr T hT X
  have hv' : v = r.map (jv (jad base ro)) := by cases hv; rfl
  subst hv'
  obtain ⟨i1, i2, i3, i4, i5, i6, i7, i8⟩ := hI
  obtain ⟨f1, f2⟩ := hF
  rw [h0] at f1 f2
  have hsame : ∀ q : Nat, q < s.heap.size → ¬ jB base q → t.heap[q]? = s.heap[q]? := fun q h1 h2 => (f2 q (Nat.lt_of_lt_of_le h1 i2.1) h2).trans (i2.2.1 q h1 h2)
  have hS1 : va_S (jB base) s.heap T'.heap (locs ++ Lc) := by
    rw [e1]
    refine ⟨Nat.le_trans i2.1 f1, hsame, fun q hq => ?_⟩
    rcases List.mem_append.mp hq with h | h
    · exact i2.2.2 q h
    · exact hLc q h
  have hI1 : jIv D dA base ro s G1 T'.heap (locs ++ Lc) (cells + mc) (slots + ms) N0 S0 := by
    refine ⟨by rw [e1]; exact hP1, hS1, i3, by omega, by omega, hj1, hN1, ?_⟩
    refine jRO_moved (u := t) (H := t.heap) (by rw [← e2]; exact X'.warmed.alike.symm) (fun q _ hq => ?_) hRO1
    have hq2 : q < base := Nat.not_le.mp hq
    exact (hsame q (by omega) hq).symm
  obtain ⟨t2, a1, b1⟩ := kk T'.heap (locs ++ Lc) hI1 T' rfl X'
  exact ⟨t2, stp t2 a1, b1⟩
theorem jx_pre {U : State} {av : List Value} (hK : va_K D vwCl (jTy dA) s) (hEv : jEv base ro s s.heap) (hI : jIv D dA base ro s G H locs cells slots N0 S0) (hsz : H.size = base + G.2.1) (hU : U.heap = H) (hW : s.WarmedH U.vm) : va_Pc (av.map (jv (jad base ro))) (jPre D dA base ro G) (av.map (jv (jad base ro))).toArray U := by
  obtain ⟨i1, i2, i3, i4, i5, i6, i7, i8⟩ := hI
  have hbs : base ≤ s.heap.size := by omega
  refine ⟨rfl, by rw [hU]; exact i1, va_K.moved hW.alike hK, by rw [hU]; exact hsz, i6, i7, ?_, ?_⟩
  · rw [hU]
    exact jRO_moved hW.alike i2.2.1 i8
  · rw [hU]
    exact jEv_moved hW i2.2.1 hEv
theorem jx_alloc {c9 : va_E} {q pc n : Nat} {ls : Array Slot} {rest : List Value} {H1 : Heap} {H0 : Heap} {locs0 : List Loc} (hI : jIv D dA base ro s G H0 locs0 cells slots N0 S0) (hlim : G.2.1 < 1000000) (hP : va_P D vwCl (jWs dA base ro G ++ [(q, jcell (jad base ro) dA c9)]) H1) (hD : va_D (jB base) (jWs dA base ro G ++ [(q, jcell (jad base ro) dA c9)])) (hS : va_S (jB base) s.heap H1 locs)
    (k : jIv D dA base ro s (va_up G.1 G.2.1 c9, G.2.1 + 1, G.2.2 + n) H1 locs (cells + 1) (slots + n) N0 S0 → W p l e R s m args below meth c H1 locs (cells + 1) (slots + n) Q (F0 m pc ls (.ref (jad base ro G.2.1) :: rest))) : W p l e R s m args below meth c H1 locs (cells + 1) (slots + n) Q (F0 m pc ls (.ref q :: rest)) := by
  intro T hT X
  have h1 := X.heapSize
  rw [hT] at h1
  obtain ⟨i1, i2, i3, i4, i5, i6, i7, i8⟩ := hI
  have hlen : (jWs dA base ro G).length = G.2.1 := by simp [jWs]
  have hq1 : (jWs dA base ro G ++ [(q, jcell (jad base ro) dA c9)])[G.2.1]? = some (q, jcell (jad base ro) dA c9) := by
    rw [List.getElem?_append_right (by omega), hlen, Nat.sub_self]
    rfl
  have hq2 := (hP _ _ hq1).lt
  have hq3 : base ≤ q := hD.2 _ _ hq1
  simp only at hq2
  have hq4 : q = base + G.2.1 := by
    rcases Nat.lt_or_ge q (base + G.2.1) with h | h
    · have h5 : (jWs dA base ro G ++ [(q, jcell (jad base ro) dA c9)])[q - base]? = some (base + (q - base), jcell (jad base ro) dA (G.1 (q - base))) := by
        rw [List.getElem?_append_left (by omega)]
        exact jWs_get (by omega)
      have := hD.1 _ _ _ _ h5 hq1 (by simp only; omega)
      omega
    · omega
  subst hq4
  have had : jad base ro G.2.1 = base + G.2.1 := by simp [jad, hlim]
  rw [had] at k
  refine k ⟨?_, hS, i3, by simp only; omega, by simp only; omega, fun i h1 h2 => ?_, by simp only; omega, fun i hi => ?_⟩ T hT X
  · rw [← jWs_push c9 G.2.1 (G.2.2 + n) rfl]
    exact hP
  · simp only at h1
    show va_up G.1 G.2.1 c9 i = jJ
    rw [va_up, if_neg (by omega)]
    exact i6 i (by omega) h2
  · have e9 : va_up G.1 G.2.1 c9 i = G.1 i := by rw [va_up, if_neg (by omega)]
    show va_up G.1 G.2.1 c9 i = jJ ∨ ∃ (n : Nat) (xs : Nat → Int32), va_up G.1 G.2.1 c9 i = .inl (100, n, .inl xs) ∧ va_T .int (ro i) n (fun k => .int (xs k)) (jB base) s s.heap
    rw [e9]
    exact i8 i hi
end JX
section JY
variable {l : Launch} {j pc : Nat} {L : jLo} {st : List Value} {G G1 G' : jG} {v r : Option Value}
theorem jcat_map (ad : Nat → Nat) (rest : List Value) : ((rest.map (jv ad)).map fun v => v.category).sum = (rest.map fun v => v.category).sum := by
  congr 1
  simp [List.map_map, Function.comp_def, jv_cat]
theorem jtl (ad : Nat → Nat) (r : Option Value) (rest : List Value) : (r.map (jv ad)).toList ++ rest.map (jv ad) = (r.toList ++ rest).map (jv ad) := by
  cases r <;> simp
theorem je_callV {idx j2 o c9 : Nat} {as rest stk fs : List Value} (hi : jIns j pc = some (.invokevirtual idx, 3, j2)) (hj2 : j2 < 359) (hk : Nat.blt (jK j2) (jK j) = true) (hM : jCl l j2 (.ref o :: as) G r G1) (hl : as.length = jNp j2) (hg : G.1 o = .inr (c9, fs)) (hcc : (vwCl[c9]?).map (fun r => r.1) = some (jOw j2)) (hst : (rest.map fun v => v.category).sum ≤ 8) (hb1 : G1.2.1 ≤ G'.2.1) (hb2 : G1.2.2 ≤ G'.2.2) (hsk : stk = as.reverse ++ .ref o :: rest) (k : jE l j (pc + 3) L (r.toList ++ rest) G1 v G') : jE l j pc L stk G v G' := by
  subst hsk
  intro p e R s m args below meth c D dA base ro N0 S0 Q ls H locs cells slots hC hc hs hend hL hI
  obtain ⟨hd, hok⟩ := jdec hi
  have n1 : Nat.beq j2 10005 = false := Bool.eq_false_iff.mpr fun z => by have := Nat.eq_of_beq_eq_true z; omega
  have n2 : Nat.beq j2 10006 = false := Bool.eq_false_iff.mpr fun z => by have := Nat.eq_of_beq_eq_true z; omega
  have hmv : jHas jMV (jO j) idx j2 = true := by
    simp only [jok, n1, n2, cond_false] at hok
    exact hok
  obtain ⟨d, hd9⟩ := jHas_spec hmv
  have h9 := List.all_eq_true.mp jMV_ok _ hd9
  simp only [jmvOK, Bool.and_eq_true, Bool.not_eq_true'] at h9
  obtain ⟨-, s1, s2, s3, -⟩ := h9
  obtain ⟨m1, m2, m3, m4, m5, m6, m7⟩ := jmok hj2
  have hts := hC.2.2.2.2.1
  obtain ⟨r9, hr9, hn9⟩ : ∃ r9, vwCl[c9]? = some r9 ∧ r9.1 = jOw j2 := by
    cases q : vwCl[c9]? with
    | none => rw [q] at hcc; cases hcc
    | some r9 => rw [q] at hcc; exact ⟨r9, rfl, Option.some.inj hcc⟩
  obtain ⟨hN, had⟩ := jIv_obj hI (jcl_lt999 hr9) hg
  have hget := jIv_get hI hN
  rw [hg] at hget
  have hkk := Nat.le_of_ble_eq_true hk
  have hM17 := jM17 hj2
  have hfr : jK j ≤ R.frames := hC.2.2.2.2.2.2.2.1
  have hlo : 36 * jK j ≤ R.locals := hC.2.2.2.2.2.2.2.2.1
  have hEv : jEv base ro s s.heap := hC.2.2.2.2.2.2.2.2.2.2.1
  have hGn := hM.1
  have hGs := hM.2.1
  have i4 := hI.2.2.2.1
  have i5 := hI.2.2.2.2.1
  refine jx_size hI fun hsz => ?_
  refine jx_run (G := G) (G1 := G1) (r := r) (va_runV (As := as.map (jv (jad base ro))) (rest := rest.map (jv (jad base ro))) (b := jad base ro o) (nL := jM j) (C := jOw j2) ⟨hC.1, hC.2.1, hC.2.2.1, hC.2.2.2.1, hts⟩ (hM.2.2 D dA base ro)
      (cwV (jNp j2) hts ?_ rfl rfl rfl ⟨rfl, m4⟩ ⟨by show jK j2 + 1 ≤ R.frames; omega, by show 8 + (jM j2 + 11) + 36 * jK j2 ≤ R.locals; omega⟩)
      ⟨jPre_blind, by rw [← hn9]; exact va_recv hC.2.2.2.2.2.1 hI.1 hr9 hget, fun U hU hW => jx_pre (av := .ref o :: as) hC.2.2.2.2.2.1 hEv hI hsz hU hW⟩ rfl (by rw [List.length_map]; exact hl) hL.1 (by simp [jv]) (lv_room (by rw [jcat_map]; exact hst)) hd ⟨by omega, by omega⟩) hI (by omega) (by omega) (fun H1 locs1 hI1 => ?_)
  · intro w hw
    simp only [wsV, List.mem_append, List.mem_cons, List.not_mem_nil, or_false] at hw
    rcases hw with (rfl | rfl | rfl | rfl) | hw
    · exact jTb_in (jAt_mem s3)
    · exact jTb_in (m6 s1)
    · exact jTb_in (m7 s1 s2)
    · exact jTb_in m2
    · rcases List.mem_cons.mp hw with rfl | hw
      · exact jTb_in m1
      · exact jTb_in hw
  · rw [jtl]
    exact k p e R s m args below meth c D dA base ro N0 S0 Q ls H1 locs1 _ _ hC hc hs hend hL hI1
theorem je_callS {idx j2 : Nat} {as rest stk : List Value} (hi : jIns j pc = some (.invokestatic idx, 3, j2)) (hj2 : j2 < 359) (hk : Nat.blt (jK j2) (jK j) = true) (hM : jCl l j2 as G r G1) (hl : as.length = jNp j2) (hst : (rest.map fun v => v.category).sum ≤ 8) (hb1 : G1.2.1 ≤ G'.2.1) (hb2 : G1.2.2 ≤ G'.2.2) (hsk : stk = as.reverse ++ rest) (k : jE l j (pc + 3) L (r.toList ++ rest) G1 v G') : jE l j pc L stk G v G' := by
  subst hsk
  intro p e R s m args below meth c D dA base ro N0 S0 Q ls H locs cells slots hC hc hs hend hL hI
  obtain ⟨hd, hok⟩ := jdec hi
  have n1 : Nat.beq j2 10004 = false := Bool.eq_false_iff.mpr fun z => by have := Nat.eq_of_beq_eq_true z; omega
  have hmv : jHas jMS (jO j) idx j2 = true := by
    simp only [jok, n1, cond_false] at hok
    exact hok
  obtain ⟨d, hd9⟩ := jHas_spec hmv
  have h9 := List.all_eq_true.mp jMS_ok _ hd9
  simp only [jmsOK, Bool.and_eq_true] at h9
  obtain ⟨-, s1, s3⟩ := h9
  obtain ⟨m1, m2, m3, m4, m5, m6, m7⟩ := jmok hj2
  have hts := hC.2.2.2.2.1
  have hkk := Nat.le_of_ble_eq_true hk
  have hM17 := jM17 hj2
  have hfr : jK j ≤ R.frames := hC.2.2.2.2.2.2.2.1
  have hlo : 36 * jK j ≤ R.locals := hC.2.2.2.2.2.2.2.2.1
  have hEv : jEv base ro s s.heap := hC.2.2.2.2.2.2.2.2.2.2.1
  have hGn := hM.1
  have hGs := hM.2.1
  have i4 := hI.2.2.2.1
  have i5 := hI.2.2.2.2.1
  refine jx_size hI fun hsz => ?_
  refine jx_run (G := G) (G1 := G1) (r := r) (va_runS (As := as.map (jv (jad base ro))) (rest := rest.map (jv (jad base ro))) (nL := jM j) ⟨hC.1, hC.2.1, hC.2.2.1, hC.2.2.2.1, hts⟩ (hM.2.2 D dA base ro)
      ⟨callB_of (jNp j2) hts ?_ rfl rfl rfl (hts _ m2) (hts _ (jAt_mem s3)) m4 ⟨by show jK j2 + 1 ≤ R.frames; omega, by show 8 + (jM j2 + 11) + 36 * jK j2 ≤ R.locals; omega⟩, hts _ (m5 s1)⟩
      ⟨jPre_blind, fun U hU hW => jx_pre hC.2.2.2.2.2.1 hEv hI hsz hU hW⟩ rfl (by rw [List.length_map]; exact hl) hL.1 (by simp) (lv_room (by rw [jcat_map]; exact hst)) hd ⟨by omega, by omega⟩) hI (by omega) (by omega) (fun H1 locs1 hI1 => ?_)
  · intro w hw
    rcases List.mem_cons.mp hw with rfl | hw
    · exact jTb_in m1
    · exact jTb_in hw
  · rw [jtl]
    exact k p e R s m args below meth c D dA base ro N0 S0 Q ls H1 locs1 _ _ hC hc hs hend hL hI1
theorem je_callI {idx j2 o : Nat} {as rest stk : List Value} (hi : jIns j pc = some (.invokespecial idx, 3, j2)) (hj2 : j2 < 359) (hk : Nat.blt (jK j2) (jK j) = true) (hM : jCl l j2 (.ref o :: as) G none G1) (hl : as.length = jNp j2) (hst : (rest.map fun v => v.category).sum ≤ 8) (hb1 : G1.2.1 ≤ G'.2.1) (hb2 : G1.2.2 ≤ G'.2.2) (hsk : stk = as.reverse ++ .ref o :: rest) (k : jE l j (pc + 3) L rest G1 v G') : jE l j pc L stk G v G' := by
  subst hsk
  intro p e R s m args below meth c D dA base ro N0 S0 Q ls H locs cells slots hC hc hs hend hL hI
  obtain ⟨hd, hok⟩ := jdec hi
  have n1 : Nat.beq j2 10007 = false := Bool.eq_false_iff.mpr fun z => by have := Nat.eq_of_beq_eq_true z; omega
  have hmv : jHas jMI (jO j) idx j2 = true := by
    simp only [jok, n1, cond_false] at hok
    exact hok
  obtain ⟨d, hd9⟩ := jHas_spec hmv
  have h9 := List.all_eq_true.mp jMI_ok _ hd9
  simp only [jmiOK, Bool.and_eq_true, Bool.not_eq_true', decide_eq_true_eq] at h9
  obtain ⟨-, s1, s3, s4, s5⟩ := h9
  obtain ⟨m1, m2, m3, m4, m5, m6, m7⟩ := jmok hj2
  have hts := hC.2.2.2.2.1
  have hkk := Nat.le_of_ble_eq_true hk
  have hM17 := jM17 hj2
  have hfr : jK j ≤ R.frames := hC.2.2.2.2.2.2.2.1
  have hlo : 36 * jK j ≤ R.locals := hC.2.2.2.2.2.2.2.2.1
  have hEv : jEv base ro s s.heap := hC.2.2.2.2.2.2.2.2.2.2.1
  have hGn := hM.1
  have hGs := hM.2.1
  have i4 := hI.2.2.2.1
  have i5 := hI.2.2.2.2.1
  have hwd : jWd j2 = .code (jY j2) (jC j2) (jM j2) none :: jTb := by rw [jWd, s5]
  refine jx_size hI fun hsz => ?_
  refine jx_run (G := G) (G1 := G1) (r := none) (va_runI (As := as.map (jv (jad base ro))) (rest := rest.map (jv (jad base ro))) (b := jad base ro o) (nL := jM j) ⟨hC.1, hC.2.1, hC.2.2.1, hC.2.2.2.1, hts⟩ (hM.2.2 D dA base ro)
      ⟨callB_of (jNp j2) hts ?_ hwd rfl rfl (hts _ m2) (hts _ (jAt_mem s3)) m4 ⟨by show jK j2 + 1 ≤ R.frames; omega, by show 8 + (jM j2 + 11) + 36 * jK j2 ≤ R.locals; omega⟩, s4, hts _ (m6 s1)⟩
      ⟨jPre_blind, fun U hU hW => jx_pre (av := .ref o :: as) hC.2.2.2.2.2.1 hEv hI hsz hU hW⟩ rfl (by rw [List.length_map]; exact hl) hL.1 (by simp [jv]) (lv_room (by rw [jcat_map]; exact hst)) hd ⟨by omega, by omega⟩) hI (by omega) (by omega) (fun H1 locs1 hI1 => ?_)
  · intro w hw
    rcases List.mem_cons.mp hw with rfl | hw
    · exact jTb_in m1
    · exact jTb_in hw
  · exact k p e R s m args below meth c D dA base ro N0 S0 Q ls H1 locs1 _ _ hC hc hs hend hL hI1
end JY
