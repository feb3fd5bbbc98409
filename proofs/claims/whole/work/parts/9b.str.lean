/-! String.length and String.charAt on the text constants -/
def sY_co : MethodName := ⟨"java/lang/String", "coder", "()B"⟩
def sW_co : List Cond := .code sY_co prog_16_method_152_code 1 (some .byte) :: jTb
def sY_le : MethodName := ⟨"java/lang/String", "length", "()I"⟩
def sW_le : List Cond := .code sY_le prog_16_method_54_code 1 (some .int) :: jTb
def sY_la : MethodName := ⟨"java/lang/String", "isLatin1", "()Z"⟩
def sW_la : List Cond := .code sY_la prog_16_method_154_code 1 (some .boolean) :: jTb
def sY_pc : MethodName := ⟨"jdk/internal/util/Preconditions", "checkIndex", "(IILjava/util/function/BiFunction;)I"⟩
def sW_pc : List Cond := .code sY_pc prog_20_method_11_code 3 (some .int) :: jTb
def sY_ci : MethodName := ⟨"java/lang/String", "checkIndex", "(II)V"⟩
def sW_ci : List Cond := .code sY_ci prog_16_method_155_code 2 none :: jTb
def sY_sc : MethodName := ⟨"java/lang/StringLatin1", "charAt", "([BI)C"⟩
def sW_sc : List Cond := .code sY_sc prog_17_method_2_code 2 (some .char) :: jTb
def sY_ca : MethodName := ⟨"java/lang/String", "charAt", "(I)C"⟩
def sW_ca : List Cond := .code sY_ca prog_16_method_56_code 2 (some .char) :: jTb
set_option maxRecDepth 100000 in
theorem sw_c_co : (Cond.code sY_co prog_16_method_152_code 1 (some .byte)) ∈ jTb := List.mem_filter.mpr ⟨List.mem_of_getElem? (i := 843) rfl, by decide +kernel⟩
set_option maxRecDepth 100000 in
theorem sw_c_le : (Cond.code sY_le prog_16_method_54_code 1 (some .int)) ∈ jTb := List.mem_filter.mpr ⟨List.mem_of_getElem? (i := 839) rfl, by decide +kernel⟩
set_option maxRecDepth 100000 in
theorem sw_c_la : (Cond.code sY_la prog_16_method_154_code 1 (some .boolean)) ∈ jTb := List.mem_filter.mpr ⟨List.mem_of_getElem? (i := 853) rfl, by decide +kernel⟩
set_option maxRecDepth 100000 in
theorem sw_c_pc : (Cond.code sY_pc prog_20_method_11_code 3 (some .int)) ∈ jTb := List.mem_filter.mpr ⟨List.mem_of_getElem? (i := 864) rfl, by decide +kernel⟩
set_option maxRecDepth 100000 in
theorem sw_c_ci : (Cond.code sY_ci prog_16_method_155_code 2 none) ∈ jTb := List.mem_filter.mpr ⟨List.mem_of_getElem? (i := 859) rfl, by decide +kernel⟩
set_option maxRecDepth 100000 in
theorem sw_c_sc : (Cond.code sY_sc prog_17_method_2_code 2 (some .char)) ∈ jTb := List.mem_filter.mpr ⟨List.mem_of_getElem? (i := 856) rfl, by decide +kernel⟩
set_option maxRecDepth 100000 in
theorem sw_c_ca : (Cond.code sY_ca prog_16_method_56_code 2 (some .char)) ∈ jTb := List.mem_filter.mpr ⟨List.mem_of_getElem? (i := 849) rfl, by decide +kernel⟩
theorem sw_iS : (Cond.initialized "java/lang/String") ∈ jTb := jAt_mem (p := 179) (by decide +kernel)
theorem sw_iL : (Cond.initialized "java/lang/StringLatin1") ∈ jTb := jAt_mem (p := 180) (by decide +kernel)
theorem sw_iP : (Cond.initialized "jdk/internal/util/Preconditions") ∈ jTb := jAt_mem (p := 181) (by decide +kernel)
theorem sw_f38 : (Cond.fieldLink "java/lang/String" 38 "java/lang/String" "COMPACT_STRINGS" "Z") ∈ jTb := jAt_mem (p := 844) (by decide +kernel)
theorem sw_f15 : (Cond.fieldLink "java/lang/String" 15 "java/lang/String" "coder" "B") ∈ jTb := jAt_mem (p := 2492) (by decide +kernel)
theorem sw_f9 : (Cond.fieldLink "java/lang/String" 9 "java/lang/String" "value" "[B") ∈ jTb := jAt_mem (p := 2491) (by decide +kernel)
theorem sw_f1053 : (Cond.fieldLink "java/lang/String" 1053 "jdk/internal/util/Preconditions" "SIOOBE_FORMATTER" "Ljava/util/function/BiFunction;") ∈ jTb := jAt_mem (p := 860) (by decide +kernel)
theorem sw_m335 : (Cond.methodLink "java/lang/String" 335 sY_co) ∈ jTb := jAt_mem (p := 840) (by decide +kernel)
theorem sw_n_co : (Cond.instanceMethod sY_co) ∈ jTb := jAt_mem (p := 841) (by decide +kernel)
theorem sw_s_co : (Cond.selects "java/lang/String" sY_co sY_co) ∈ jTb := jAt_mem (p := 842) (by decide +kernel)
theorem sw_m492 : (Cond.methodLink "java/lang/String" 492 sY_la) ∈ jTb := jAt_mem (p := 850) (by decide +kernel)
theorem sw_n_la : (Cond.instanceMethod sY_la) ∈ jTb := jAt_mem (p := 851) (by decide +kernel)
theorem sw_s_la : (Cond.selects "java/lang/String" sY_la sY_la) ∈ jTb := jAt_mem (p := 852) (by decide +kernel)
theorem sw_m495 : (Cond.methodLink "java/lang/String" 495 sY_sc) ∈ jTb := jAt_mem (p := 854) (by decide +kernel)
theorem sw_t_sc : (Cond.static sY_sc) ∈ jTb := jAt_mem (p := 855) (by decide +kernel)
theorem sw_m9 : (Cond.methodLink "java/lang/StringLatin1" 9 sY_ci) ∈ jTb := jAt_mem (p := 857) (by decide +kernel)
theorem sw_t_ci : (Cond.static sY_ci) ∈ jTb := jAt_mem (p := 858) (by decide +kernel)
theorem sw_m1059 : (Cond.methodLink "java/lang/String" 1059 sY_pc) ∈ jTb := jAt_mem (p := 862) (by decide +kernel)
theorem sw_t_pc : (Cond.static sY_pc) ∈ jTb := jAt_mem (p := 863) (by decide +kernel)
theorem sw_n_le : (Cond.instanceMethod sY_le) ∈ jTb := jAt_mem (p := 837) (by decide +kernel)
theorem sw_s_le : (Cond.selects "java/lang/String" sY_le sY_le) ∈ jTb := jAt_mem (p := 838) (by decide +kernel)
theorem sw_n_ca : (Cond.instanceMethod sY_ca) ∈ jTb := jAt_mem (p := 847) (by decide +kernel)
theorem sw_s_ca : (Cond.selects "java/lang/String" sY_ca sY_ca) ∈ jTb := jAt_mem (p := 848) (by decide +kernel)
theorem sw_ml2 : (Cond.methodLink (jOn 2) 80 sY_le) ∈ jTb := jAt_mem (p := 1552) (by decide +kernel)
theorem sw_mc2 : (Cond.methodLink (jOn 2) 86 sY_ca) ∈ jTb := jAt_mem (p := 1553) (by decide +kernel)
theorem sw_ml7 : (Cond.methodLink (jOn 7) 145 sY_le) ∈ jTb := jAt_mem (p := 836) (by decide +kernel)
theorem sw_mc7 : (Cond.methodLink (jOn 7) 151 sY_ca) ∈ jTb := jAt_mem (p := 846) (by decide +kernel)
theorem sd_co0 : decode prog_16_method_152_code 0 = .ok (.getstatic 38, 3) := by decide +kernel
theorem sd_co3 : decode prog_16_method_152_code 3 = .ok (.ifCond .eq 10, 3) := by decide +kernel
theorem sd_co6 : decode prog_16_method_152_code 6 = .ok (.aload_n 0, 1) := by decide +kernel
theorem sd_co7 : decode prog_16_method_152_code 7 = .ok (.getfield 15, 3) := by decide +kernel
theorem sd_co10 : decode prog_16_method_152_code 10 = .ok (.goto 4, 3) := by decide +kernel
theorem sd_co14 : decode prog_16_method_152_code 14 = .ok (.ireturn, 1) := by decide +kernel
theorem sd_le0 : decode prog_16_method_54_code 0 = .ok (.aload_n 0, 1) := by decide +kernel
theorem sd_le1 : decode prog_16_method_54_code 1 = .ok (.getfield 9, 3) := by decide +kernel
theorem sd_le4 : decode prog_16_method_54_code 4 = .ok (.arraylength, 1) := by decide +kernel
theorem sd_le5 : decode prog_16_method_54_code 5 = .ok (.aload_n 0, 1) := by decide +kernel
theorem sd_le6 : decode prog_16_method_54_code 6 = .ok (.invokevirtual 335, 3) := by decide +kernel
theorem sd_le9 : decode prog_16_method_54_code 9 = .ok (.ishr, 1) := by decide +kernel
theorem sd_le10 : decode prog_16_method_54_code 10 = .ok (.ireturn, 1) := by decide +kernel
theorem sd_la0 : decode prog_16_method_154_code 0 = .ok (.getstatic 38, 3) := by decide +kernel
theorem sd_la3 : decode prog_16_method_154_code 3 = .ok (.ifCond .eq 14, 3) := by decide +kernel
theorem sd_la6 : decode prog_16_method_154_code 6 = .ok (.aload_n 0, 1) := by decide +kernel
theorem sd_la7 : decode prog_16_method_154_code 7 = .ok (.getfield 15, 3) := by decide +kernel
theorem sd_la10 : decode prog_16_method_154_code 10 = .ok (.ifCond .ne 7, 3) := by decide +kernel
theorem sd_la13 : decode prog_16_method_154_code 13 = .ok (.iconst 1, 1) := by decide +kernel
theorem sd_la14 : decode prog_16_method_154_code 14 = .ok (.goto 4, 3) := by decide +kernel
theorem sd_la18 : decode prog_16_method_154_code 18 = .ok (.ireturn, 1) := by decide +kernel
theorem sd_pc0 : decode prog_20_method_11_code 0 = .ok (.iload_n 0, 1) := by decide +kernel
theorem sd_pc1 : decode prog_20_method_11_code 1 = .ok (.ifCond .lt 8, 3) := by decide +kernel
theorem sd_pc4 : decode prog_20_method_11_code 4 = .ok (.iload_n 0, 1) := by decide +kernel
theorem sd_pc5 : decode prog_20_method_11_code 5 = .ok (.iload_n 1, 1) := by decide +kernel
theorem sd_pc6 : decode prog_20_method_11_code 6 = .ok (.if_icmp .lt 10, 3) := by decide +kernel
theorem sd_pc16 : decode prog_20_method_11_code 16 = .ok (.iload_n 0, 1) := by decide +kernel
theorem sd_pc17 : decode prog_20_method_11_code 17 = .ok (.ireturn, 1) := by decide +kernel
theorem sd_ci0 : decode prog_16_method_155_code 0 = .ok (.iload_n 0, 1) := by decide +kernel
theorem sd_ci1 : decode prog_16_method_155_code 1 = .ok (.iload_n 1, 1) := by decide +kernel
theorem sd_ci2 : decode prog_16_method_155_code 2 = .ok (.getstatic 1053, 3) := by decide +kernel
theorem sd_ci5 : decode prog_16_method_155_code 5 = .ok (.invokestatic 1059, 3) := by decide +kernel
theorem sd_ci8 : decode prog_16_method_155_code 8 = .ok (.pop, 1) := by decide +kernel
theorem sd_ci9 : decode prog_16_method_155_code 9 = .ok (.return_, 1) := by decide +kernel
theorem sd_sc0 : decode prog_17_method_2_code 0 = .ok (.iload_n 1, 1) := by decide +kernel
theorem sd_sc1 : decode prog_17_method_2_code 1 = .ok (.aload_n 0, 1) := by decide +kernel
theorem sd_sc2 : decode prog_17_method_2_code 2 = .ok (.arraylength, 1) := by decide +kernel
theorem sd_sc3 : decode prog_17_method_2_code 3 = .ok (.invokestatic 9, 3) := by decide +kernel
theorem sd_sc6 : decode prog_17_method_2_code 6 = .ok (.aload_n 0, 1) := by decide +kernel
theorem sd_sc7 : decode prog_17_method_2_code 7 = .ok (.iload_n 1, 1) := by decide +kernel
theorem sd_sc8 : decode prog_17_method_2_code 8 = .ok (.baload, 1) := by decide +kernel
theorem sd_sc9 : decode prog_17_method_2_code 9 = .ok (.sipush 255, 3) := by decide +kernel
theorem sd_sc12 : decode prog_17_method_2_code 12 = .ok (.iand, 1) := by decide +kernel
theorem sd_sc13 : decode prog_17_method_2_code 13 = .ok (.i2c, 1) := by decide +kernel
theorem sd_sc14 : decode prog_17_method_2_code 14 = .ok (.ireturn, 1) := by decide +kernel
theorem sd_ca0 : decode prog_16_method_56_code 0 = .ok (.aload_n 0, 1) := by decide +kernel
theorem sd_ca1 : decode prog_16_method_56_code 1 = .ok (.invokevirtual 492, 3) := by decide +kernel
theorem sd_ca4 : decode prog_16_method_56_code 4 = .ok (.ifCond .eq 12, 3) := by decide +kernel
theorem sd_ca7 : decode prog_16_method_56_code 7 = .ok (.aload_n 0, 1) := by decide +kernel
theorem sd_ca8 : decode prog_16_method_56_code 8 = .ok (.getfield 9, 3) := by decide +kernel
theorem sd_ca11 : decode prog_16_method_56_code 11 = .ok (.iload_n 1, 1) := by decide +kernel
theorem sd_ca12 : decode prog_16_method_56_code 12 = .ok (.invokestatic 495, 3) := by decide +kernel
theorem sd_ca15 : decode prog_16_method_56_code 15 = .ok (.ireturn, 1) := by decide +kernel
def sQ (v : Option Value) : Array Value → State → Outcome → State → Prop := fun _ st oc t => oc = .returned v ∧ t.heap = st.heap
def sF : Addr → Prop := fun _ => False
def sRm (f n : Nat) : Room := { frames := f, cells := 0, slots := 0, locals := n }
/-- a call that changes nothing -/
theorem sx_run {p : Program} {l : Launch} {e : Env} {R : Room} {s : State} {m : MethodId} {args : Array Value} {below : List Frame} {meth : Method} {c : Code} {H : Heap} {locs : List Loc} {cells slots : Nat} {Q : State → Prop} {pc : Nat} {ls : Array Slot} {st0 rest : List Value} {r : Option Value} {a : Array Value} (hr : va_Run p l e R s m args below meth c H locs cells slots 0 0 (F0 m pc ls st0) rest (sQ r a) sF) (kk : W p l e R s m args below meth c H locs cells slots Q (F0 m (pc + 3) ls (r.toList ++ rest))) : W p l e R s m args below meth c H locs cells slots Q (F0 m pc ls st0) := by
  intro T hT X
  obtain ⟨v, st₀, t, T', Lc, h0, X', hLc, e1, e2, ⟨hv, hh⟩, stp⟩ := hr T hT X
  have hv' : v = r := by cases hv; rfl
  subst hv'
  have hL : Lc = [] := List.eq_nil_iff_forall_not_mem.mpr (fun q hq => hLc q hq)
  subst hL
  rw [List.append_nil] at X'
  obtain ⟨t2, a1, b1⟩ := kk T' (by rw [e1, hh, h0]) X'
  exact ⟨t2, stp t2 a1, b1⟩
theorem sGood {ws' : List Cond} (h : ∀ w ∈ ws', w ∈ jTb) : GoodIn jTb ws' := fun w hw => jTb_in (h w hw)
theorem sJ {w : Cond} (h : w ∈ jTb) : w ∈ jTb := h
theorem sm_co (l : Launch) (base a : Nat) : Met l sY_co sW_co (sRm 0 0) (va_Pc [.ref a] (fun U => va_Z "java/lang/String" "COMPACT_STRINGS" "Z" (.int 1) (jB base) U U.heap ∧ va_OF "java/lang/String" "coder" "B" (.int 0) a (jB base) U U.heap)) (sQ (some (.int 0))) 0 0 sF := by
  refine jofW (cc := prog_16_method_152_code) (maxL := 1) (ret := (some .byte)) (by decide +kernel) rfl ?_
  intro p e s m args below meth c s₁ B hml hv
  obtain ⟨rfl, hv⟩ := hv
  have hts0 := atoms_spec (ws := sW_co) B.pre
  have hts : ∀ w ∈ jTb, w.before _ s = true := fun w hw => hts0 w (List.mem_cons_of_mem _ hw)
  have hown : s.vm.findClass sY_co.cls = some m.cls := findClass_of_methodNamed B.named
  have hr := B.returns
  have hlk := B.notSynchronized
  have hx := B.exec
  have hb := B.bytes
  have hS0 : va_S (jB base) s.heap s.heap [] := va_S.rf
  rw [lg_entry_eq]
  refine va_gets hx hb hv.1 hS0 hown (hts _ sw_f38) (fun _ h => h) sd_co0 ?_
  refine lv_if_eq hx hb sd_co3 (tgt := 13) rfl (fun h => absurd h (by decide)) (fun _ => ?_)
  refine lv_aload_n hx hb sd_co6 rfl rfl ?_
  refine vk_getf hx hb hv.2 hS0 hown (hts _ sw_f15) (fun _ h => h) sd_co7 ?_
  refine lv_goto hx hb sd_co10 (tgt := 14) rfl ?_
  exact W.zret hx hb hr (rfl) (fun t ht _ => ⟨rfl, ht⟩) (fun q hq => absurd hq (List.not_mem_nil)) sd_co14
theorem sm_la (l : Launch) (base a : Nat) : Met l sY_la sW_la (sRm 0 0) (va_Pc [.ref a] (fun U => va_Z "java/lang/String" "COMPACT_STRINGS" "Z" (.int 1) (jB base) U U.heap ∧ va_OF "java/lang/String" "coder" "B" (.int 0) a (jB base) U U.heap)) (sQ (some (.int 1))) 0 0 sF := by
  refine jofW (cc := prog_16_method_154_code) (maxL := 1) (ret := (some .boolean)) (by decide +kernel) rfl ?_
  intro p e s m args below meth c s₁ B hml hv
  obtain ⟨rfl, hv⟩ := hv
  have hts0 := atoms_spec (ws := sW_la) B.pre
  have hts : ∀ w ∈ jTb, w.before _ s = true := fun w hw => hts0 w (List.mem_cons_of_mem _ hw)
  have hown : s.vm.findClass sY_la.cls = some m.cls := findClass_of_methodNamed B.named
  have hr := B.returns
  have hlk := B.notSynchronized
  have hx := B.exec
  have hb := B.bytes
  have hS0 : va_S (jB base) s.heap s.heap [] := va_S.rf
  rw [lg_entry_eq]
  refine va_gets hx hb hv.1 hS0 hown (hts _ sw_f38) (fun _ h => h) sd_la0 ?_
  refine lv_if_eq hx hb sd_la3 (tgt := 17) rfl (fun h => absurd h (by decide)) (fun _ => ?_)
  refine lv_aload_n hx hb sd_la6 rfl rfl ?_
  refine vk_getf hx hb hv.2 hS0 hown (hts _ sw_f15) (fun _ h => h) sd_la7 ?_
  refine lv_if_ne hx hb sd_la10 (tgt := 17) rfl (fun h => absurd rfl h) (fun _ => ?_)
  refine lv_iconst hx hb sd_la13 (v := 1) rfl ?_
  refine lv_goto hx hb sd_la14 (tgt := 18) rfl ?_
  exact W.zret hx hb hr (rfl) (fun t ht _ => ⟨rfl, ht⟩) (fun q hq => absurd hq (List.not_mem_nil)) sd_la18
theorem sm_le (l : Launch) (base a d n : Nat) (f : Nat → Value) : Met l sY_le sW_le (sRm 1 20) (va_Pc [.ref a] (fun U => va_Z "java/lang/String" "COMPACT_STRINGS" "Z" (.int 1) (jB base) U U.heap ∧ va_OF "java/lang/String" "coder" "B" (.int 0) a (jB base) U U.heap ∧ va_O "java/lang/String" a (jB base) U U.heap ∧ va_OF "java/lang/String" "value" "[B" (.ref d) a (jB base) U U.heap ∧ va_T .byte d n f (jB base) U U.heap)) (sQ (some (.int (Int32.ofNat n >>> (0 &&& 31))))) 0 0 sF := by
  refine jofW (cc := prog_16_method_54_code) (maxL := 1) (ret := (some .int)) (by decide +kernel) rfl ?_
  intro p e s m args below meth c s₁ B hml hv
  obtain ⟨rfl, hv⟩ := hv
  have hts0 := atoms_spec (ws := sW_le) B.pre
  have hts : ∀ w ∈ jTb, w.before _ s = true := fun w hw => hts0 w (List.mem_cons_of_mem _ hw)
  have hown : s.vm.findClass sY_le.cls = some m.cls := findClass_of_methodNamed B.named
  have hr := B.returns
  have hlk := B.notSynchronized
  have hx := B.exec
  have hb := B.bytes
  have hS0 : va_S (jB base) s.heap s.heap [] := va_S.rf
  rw [lg_entry_eq]
  obtain ⟨v1, v2, v3, v4, v5⟩ := hv
  refine lv_aload_n hx hb sd_le0 rfl rfl ?_
  refine vk_getf hx hb v4 hS0 hown (hts _ sw_f9) (fun _ h => h) sd_le1 ?_
  refine va_tlen hx hb v5 hS0 rfl sd_le4 ?_
  refine lv_aload_n hx hb sd_le5 rfl rfl ?_
  refine sx_run (va_runV (As := []) (rest := [.int (Int32.ofNat n)]) (b := a) (C := "java/lang/String") ⟨hx, hb, hml, hown, hts⟩ (sm_co l base a) (cwV 0 hts (sGood (fun w hw => ?_)) rfl rfl rfl ⟨rfl, by decide, by decide, by decide +kernel⟩ ⟨by decide, by decide⟩) ⟨fun a9 U g mk h => ⟨h.1, va_Z.moved (u := U) (U := U.calling g mk a9) (Vm.Alike.refl U.vm) h.2.1, va_OF.moved (u := U) (U := U.calling g mk a9) (Vm.Alike.refl U.vm) h.2.2⟩, (by obtain ⟨cell, q1, q2, q3, -⟩ := v3; exact ⟨cell, q1, q2, q3⟩), fun U hU hW => ⟨rfl, by dsimp only; rw [hU]; exact ⟨va_Z.moved hW.alike v1, va_OF.moved hW.alike v2⟩⟩⟩ rfl rfl rfl rfl (lv_room (Nat.le_of_ble_eq_true rfl)) sd_le6 ⟨by decide, by decide⟩) ?_
  · simp only [wsV, List.mem_append, List.mem_cons, List.not_mem_nil, or_false] at hw
    rcases hw with (rfl | rfl | rfl | rfl) | hw
    · exact sw_m335
    · exact sw_n_co
    · exact sw_s_co
    · exact sw_iS
    · rcases List.mem_cons.mp hw with rfl | hw
      · exact sw_c_co
      · exact hw
  refine lv_ishr hx hb sd_le9 ?_
  exact W.zret hx hb hr (rfl) (fun t ht _ => ⟨rfl, ht⟩) (fun q hq => absurd hq (List.not_mem_nil)) sd_le10
theorem sm_pc (l : Launch) (base : Nat) (i n : Int32) (fm : Value) (h0 : ¬ i < 0) (h1 : i < n) (hf : fm = .null ∨ ∃ t, fm = .ref t) : Met l sY_pc sW_pc (sRm 0 0) (va_Pc [.int i, .int n, fm] (fun _ => True)) (sQ (some (.int i))) 0 0 sF := by
  refine jofW (cc := prog_20_method_11_code) (maxL := 3) (ret := (some .int)) (by decide +kernel) rfl ?_
  intro p e s m args below meth c s₁ B hml hv
  obtain ⟨rfl, hv⟩ := hv
  have hts0 := atoms_spec (ws := sW_pc) B.pre
  have hts : ∀ w ∈ jTb, w.before _ s = true := fun w hw => hts0 w (List.mem_cons_of_mem _ hw)
  have hown : s.vm.findClass sY_pc.cls = some m.cls := findClass_of_methodNamed B.named
  have hr := B.returns
  have hlk := B.notSynchronized
  have hx := B.exec
  have hb := B.bytes
  have hS0 : va_S (jB base) s.heap s.heap [] := va_S.rf
  rw [lg_entry_eq]
  have el : ∀ q, q < 2 → ((lg_sl [.int i, .int n, fm] ++ List.replicate (3 - (lg_sl [.int i, .int n, fm]).length) Slot.unset).toArray)[q]? = ([Slot.val (.int i), Slot.val (.int n)])[q]? := by
    intro q hq
    have e9 : lg_sl [.int i, .int n, fm] = [Slot.val (.int i), Slot.val (.int n), Slot.val fm] := by rcases hf with rfl | ⟨t, rfl⟩ <;> rfl
    rw [e9]
    match q, hq with
    | 0, _ => rfl
    | 1, _ => rfl
  refine lv_iload_n hx hb sd_pc0 (i := 0) rfl (el 0 (by decide)) ?_
  refine lv_if_lt hx hb sd_pc1 (tgt := 9) rfl (fun h => absurd h h0) (fun _ => ?_)
  refine lv_iload_n hx hb sd_pc4 (i := 0) rfl (el 0 (by decide)) ?_
  refine lv_iload_n hx hb sd_pc5 (i := 1) rfl (el 1 (by decide)) ?_
  refine lv_icmp_lt hx hb sd_pc6 (tgt := 16) rfl (fun _ => ?_) (fun h => absurd h1 h)
  refine lv_iload_n hx hb sd_pc16 (i := 0) rfl (el 0 (by decide)) ?_
  exact W.zret hx hb hr (rfl) (fun t ht _ => ⟨rfl, ht⟩) (fun q hq => absurd hq (List.not_mem_nil)) sd_pc17
theorem sm_ci (l : Launch) (base : Nat) (i n : Int32) (h0 : ¬ i < 0) (h1 : i < n) : Met l sY_ci sW_ci (sRm 1 22) (va_Pc [.int i, .int n] (fun U => va_Zq "jdk/internal/util/Preconditions" "SIOOBE_FORMATTER" "Ljava/util/function/BiFunction;" (jB base) U U.heap)) (sQ none) 0 0 sF := by
  refine jofW (cc := prog_16_method_155_code) (maxL := 2) (ret := none) (by decide +kernel) rfl ?_
  intro p e s m args below meth c s₁ B hml hv
  obtain ⟨rfl, hv⟩ := hv
  have hts0 := atoms_spec (ws := sW_ci) B.pre
  have hts : ∀ w ∈ jTb, w.before _ s = true := fun w hw => hts0 w (List.mem_cons_of_mem _ hw)
  have hown : s.vm.findClass sY_ci.cls = some m.cls := findClass_of_methodNamed B.named
  have hr := B.returns
  have hlk := B.notSynchronized
  have hx := B.exec
  have hb := B.bytes
  have hS0 : va_S (jB base) s.heap s.heap [] := va_S.rf
  rw [lg_entry_eq]
  have key : ∀ fm : Value, (fm = .null ∨ ∃ t, fm = .ref t) → va_Z "jdk/internal/util/Preconditions" "SIOOBE_FORMATTER" "Ljava/util/function/BiFunction;" fm (jB base) s s.heap → W p l e (headSpec sW_ci (sRm 1 22)).room s m [.int i, .int n].toArray below meth c s.heap [] 0 0 (MQ below (sQ none) [.int i, .int n].toArray s 0 0 sF) (F0 m 0 ((lg_sl [.int i, .int n] ++ List.replicate (2 - (lg_sl [.int i, .int n]).length) Slot.unset).toArray) []) := by
    intro fm hc hz
    refine lv_iload_n hx hb sd_ci0 (i := 0) rfl rfl ?_
    refine lv_iload_n hx hb sd_ci1 (i := 1) rfl rfl ?_
    refine va_gets hx hb hz hS0 hown (hts _ sw_f1053) (fun _ h => h) sd_ci2 ?_
    refine sx_run (va_runS (As := [.int i, .int n, fm]) (rest := []) ⟨hx, hb, hml, hown, hts⟩ (sm_pc l base i n fm h0 h1 hc) ⟨callB_of 3 hts (sGood (fun w hw => ?_)) rfl rfl rfl (hts _ sw_iP) (hts _ sw_m1059) ⟨by decide, by decide, by decide +kernel⟩ ⟨by decide, by decide⟩, hts _ sw_t_pc⟩ ⟨fun a9 U g mk h => h, fun U hU hW => ⟨rfl, trivial⟩⟩ rfl rfl rfl rfl (lv_room (Nat.le_of_ble_eq_true rfl)) sd_ci5 ⟨by decide, by decide⟩) ?_
    · rcases List.mem_cons.mp hw with rfl | hw
      · exact sw_c_pc
      · exact hw
    refine lv_pop hx hb sd_ci8 rfl ?_
    exact W.vret hx hb hr (fun t ht _ => ⟨rfl, ht⟩) (fun q hq => absurd hq (List.not_mem_nil)) sd_ci9
  rcases hv with hz | ⟨t, hz⟩
  · exact key _ (Or.inl rfl) hz
  · exact key _ (Or.inr ⟨_, rfl⟩) hz
theorem sm_sc (l : Launch) (base d n : Nat) (f : Nat → Value) (i b v : Int32) (h0 : ¬ i < 0) (h1 : i < Int32.ofNat n) (h2 : i.toNatClampNeg < n) (hf : f i.toNatClampNeg = .int b) (hv9 : ((b &&& 255).toUInt32 % 65536).toInt32 = v) (hn9 : narrow .char (.int v) = .int v) : Met l sY_sc sW_sc (sRm 2 43) (va_Pc [.ref d, .int i] (fun U => va_T .byte d n f (jB base) U U.heap ∧ va_Zq "jdk/internal/util/Preconditions" "SIOOBE_FORMATTER" "Ljava/util/function/BiFunction;" (jB base) U U.heap)) (sQ (some (.int v))) 0 0 sF := by
  refine jofW (cc := prog_17_method_2_code) (maxL := 2) (ret := (some .char)) (by decide +kernel) rfl ?_
  intro p e s m args below meth c s₁ B hml hv
  obtain ⟨rfl, hv⟩ := hv
  have hts0 := atoms_spec (ws := sW_sc) B.pre
  have hts : ∀ w ∈ jTb, w.before _ s = true := fun w hw => hts0 w (List.mem_cons_of_mem _ hw)
  have hown : s.vm.findClass sY_sc.cls = some m.cls := findClass_of_methodNamed B.named
  have hr := B.returns
  have hlk := B.notSynchronized
  have hx := B.exec
  have hb := B.bytes
  have hS0 : va_S (jB base) s.heap s.heap [] := va_S.rf
  rw [lg_entry_eq]
  refine lv_iload_n hx hb sd_sc0 (i := 1) rfl rfl ?_
  refine lv_aload_n hx hb sd_sc1 (i := 0) rfl rfl ?_
  refine va_tlen hx hb hv.1 hS0 rfl sd_sc2 ?_
  refine sx_run (va_runS (As := [.int i, .int (Int32.ofNat n)]) (rest := []) ⟨hx, hb, hml, hown, hts⟩ (sm_ci l base i (Int32.ofNat n) h0 h1) ⟨callB_of 2 hts (sGood (fun w hw => ?_)) rfl rfl rfl (hts _ sw_iS) (hts _ sw_m9) ⟨by decide, by decide, by decide +kernel⟩ ⟨by decide, by decide⟩, hts _ sw_t_ci⟩ ⟨fun a9 U g mk h => ⟨h.1, va_Zq.moved (u := U) (U := U.calling g mk a9) (Vm.Alike.refl U.vm) h.2⟩, fun U hU hW => ⟨rfl, by dsimp only; rw [hU]; exact va_Zq.moved hW.alike hv.2⟩⟩ rfl rfl rfl rfl (lv_room (Nat.le_of_ble_eq_true rfl)) sd_sc3 ⟨by decide, by decide⟩) ?_
  · rcases List.mem_cons.mp hw with rfl | hw
    · exact sw_c_ci
    · exact hw
  refine lv_aload_n hx hb sd_sc6 (i := 0) rfl rfl ?_
  refine lv_iload_n hx hb sd_sc7 (i := 1) rfl rfl ?_
  refine va_tb hx hb hv.1 hS0 (fun q => by rcases q with q | q; exact h0 q; omega) hf sd_sc8 ?_
  refine lv_sipush hx hb sd_sc9 (v := 255) rfl ?_
  refine lv_iand hx hb sd_sc12 ?_
  refine lv_i2c hx hb sd_sc13 hv9 ?_
  exact W.zret hx hb hr (hn9) (fun t ht _ => ⟨rfl, ht⟩) (fun q hq => absurd hq (List.not_mem_nil)) sd_sc14
theorem sm_ca (l : Launch) (base a d n : Nat) (f : Nat → Value) (i b v : Int32) (h0 : ¬ i < 0) (h1 : i < Int32.ofNat n) (h2 : i.toNatClampNeg < n) (hf : f i.toNatClampNeg = .int b) (hv9 : ((b &&& 255).toUInt32 % 65536).toInt32 = v) (hn9 : narrow .char (.int v) = .int v) : Met l sY_ca sW_ca (sRm 3 64) (va_Pc [.ref a, .int i] (fun U => (va_Z "java/lang/String" "COMPACT_STRINGS" "Z" (.int 1) (jB base) U U.heap ∧ va_OF "java/lang/String" "coder" "B" (.int 0) a (jB base) U U.heap ∧ va_O "java/lang/String" a (jB base) U U.heap ∧ va_OF "java/lang/String" "value" "[B" (.ref d) a (jB base) U U.heap ∧ va_T .byte d n f (jB base) U U.heap) ∧ va_Zq "jdk/internal/util/Preconditions" "SIOOBE_FORMATTER" "Ljava/util/function/BiFunction;" (jB base) U U.heap)) (sQ (some (.int v))) 0 0 sF := by
  refine jofW (cc := prog_16_method_56_code) (maxL := 2) (ret := (some .char)) (by decide +kernel) rfl ?_
  intro p e s m args below meth c s₁ B hml hv
  obtain ⟨rfl, hv⟩ := hv
  have hts0 := atoms_spec (ws := sW_ca) B.pre
  have hts : ∀ w ∈ jTb, w.before _ s = true := fun w hw => hts0 w (List.mem_cons_of_mem _ hw)
  have hown : s.vm.findClass sY_ca.cls = some m.cls := findClass_of_methodNamed B.named
  have hr := B.returns
  have hlk := B.notSynchronized
  have hx := B.exec
  have hb := B.bytes
  have hS0 : va_S (jB base) s.heap s.heap [] := va_S.rf
  rw [lg_entry_eq]
  obtain ⟨⟨v1, v2, v3, v4, v5⟩, v6⟩ := hv
  refine lv_aload_n hx hb sd_ca0 (i := 0) rfl rfl ?_
  refine sx_run (va_runV (As := []) (rest := []) (b := a) (C := "java/lang/String") ⟨hx, hb, hml, hown, hts⟩ (sm_la l base a) (cwV 0 hts (sGood (fun w hw => ?_)) rfl rfl rfl ⟨rfl, by decide, by decide, by decide +kernel⟩ ⟨by decide, by decide⟩) ⟨fun a9 U g mk h => ⟨h.1, va_Z.moved (u := U) (U := U.calling g mk a9) (Vm.Alike.refl U.vm) h.2.1, va_OF.moved (u := U) (U := U.calling g mk a9) (Vm.Alike.refl U.vm) h.2.2⟩, (by obtain ⟨cell, q1, q2, q3, -⟩ := v3; exact ⟨cell, q1, q2, q3⟩), fun U hU hW => ⟨rfl, by dsimp only; rw [hU]; exact ⟨va_Z.moved hW.alike v1, va_OF.moved hW.alike v2⟩⟩⟩ rfl rfl rfl rfl (lv_room (Nat.le_of_ble_eq_true rfl)) sd_ca1 ⟨by decide, by decide⟩) ?_
  · simp only [wsV, List.mem_append, List.mem_cons, List.not_mem_nil, or_false] at hw
    rcases hw with (rfl | rfl | rfl | rfl) | hw
    · exact sw_m492
    · exact sw_n_la
    · exact sw_s_la
    · exact sw_iS
    · rcases List.mem_cons.mp hw with rfl | hw
      · exact sw_c_la
      · exact hw
  refine lv_if_eq hx hb sd_ca4 (tgt := 16) rfl (fun h => absurd h (by decide)) (fun _ => ?_)
  refine lv_aload_n hx hb sd_ca7 (i := 0) rfl rfl ?_
  refine vk_getf hx hb v4 hS0 hown (hts _ sw_f9) (fun _ h => h) sd_ca8 ?_
  refine lv_iload_n hx hb sd_ca11 (i := 1) rfl rfl ?_
  refine sx_run (va_runS (As := [.ref d, .int i]) (rest := []) ⟨hx, hb, hml, hown, hts⟩ (sm_sc l base d n f i b v h0 h1 h2 hf hv9 hn9) ⟨callB_of 2 hts (sGood (fun w hw => ?_)) rfl rfl rfl (hts _ sw_iL) (hts _ sw_m495) ⟨by decide, by decide, by decide +kernel⟩ ⟨by decide, by decide⟩, hts _ sw_t_sc⟩ ⟨fun a9 U g mk h => ⟨h.1, va_T.moved (u := U) (U := U.calling g mk a9) (Vm.Alike.refl U.vm) h.2.1, va_Zq.moved (u := U) (U := U.calling g mk a9) (Vm.Alike.refl U.vm) h.2.2⟩, fun U hU hW => ⟨rfl, by dsimp only; rw [hU]; exact ⟨va_T.moved hW.alike v5, va_Zq.moved hW.alike v6⟩⟩⟩ rfl rfl rfl rfl (lv_room (Nat.le_of_ble_eq_true rfl)) sd_ca12 ⟨by decide, by decide⟩) ?_
  · rcases List.mem_cons.mp hw with rfl | hw
    · exact sw_c_sc
    · exact hw
  exact W.zret hx hb hr (hn9) (fun t ht _ => ⟨rfl, ht⟩) (fun q hq => absurd hq (List.not_mem_nil)) sd_ca15
def sI (k : Nat) : List Int := [[116, 97, 107, 101], [97, 116], [98, 121], [102, 105, 108, 108], [119, 105, 116, 104], [115, 97, 121], [97, 103, 97, 105, 110], [98, 97, 99, 107], [116, 105, 109, 101, 115], [116, 97, 107, 101, 32], [32, 97, 116, 32], [32, 98, 121, 32], [115, 97, 121, 32]].getD k []
theorem sI_l : ∀ k, k < 13 → jSls.getD k 0 = (sI k).length ∧ Int32.ofNat (sI k).length >>> (0 &&& 31) = jI ((sI k).length : Int) := by decide +kernel
theorem sI_v : ∀ k, k < 13 → ∀ i, i < (sI k).length → ((((jSbs.getD k []).getD i 0) &&& 255).toUInt32 % 65536).toInt32 = jI ((sI k).getD i 0) ∧ narrow .char (.int (jI ((sI k).getD i 0))) = .int (jI ((sI k).getD i 0)) ∧ ¬ jI (i : Int) < 0 ∧ jI (i : Int) < Int32.ofNat (sI k).length ∧ (jI (i : Int)).toNatClampNeg = i := by decide +kernel
theorem sSL : ∀ q ∈ jSL, Cond.methodLink (jOn q.1) q.2.1 sY_le ∈ jTb := by
  intro q hq
  simp only [jSL, List.mem_cons, List.not_mem_nil, or_false] at hq
  rcases hq with rfl | rfl
  · exact sw_ml2
  · exact sw_ml7
theorem sSC : ∀ q ∈ jSC, Cond.methodLink (jOn q.1) q.2.1 sY_ca ∈ jTb := by
  intro q hq
  simp only [jSC, List.mem_cons, List.not_mem_nil, or_false] at hq
  rcases hq with rfl | rfl
  · exact sw_mc2
  · exact sw_mc7
section SY
variable {l : Launch} {j pc : Nat} {L : jLo} {st : List Value} {G G' : jG} {v : Option Value}
theorem je_slen {idx k : Nat} (hG1 : G.2.1 ≤ G'.2.1) (hG2 : G.2.2 ≤ G'.2.2) (hi : jIns j pc = some (.invokevirtual idx, 3, 10005)) (hk : k < 13) (hK : Nat.ble 5 (jK j) = true) (hst : (st.map fun v => v.category).sum ≤ 8) (kk : jE l j (pc + 3) L (.int (jI ((sI k).length : Int)) :: st) G v G') : jE l j pc L (.ref (2000000 + k) :: st) G v G' := by
  intro p e R s m args below meth c D dA base ro N0 S0 Q ls H locs cells slots hC hc hs hend hL hI
  obtain ⟨hd, hok⟩ := jdec hi
  obtain ⟨d, hd9⟩ := jHas_spec (show jHas jSL (jO j) idx 10005 = true from hok)
  have hlk := sSL _ hd9
  have hts := hC.2.2.2.2.1
  have hK5 := Nat.le_of_ble_eq_true hK
  have hfr : jK j ≤ R.frames := hC.2.2.2.2.2.2.2.1
  have hlo : 36 * jK j ≤ R.locals := hC.2.2.2.2.2.2.2.2.1
  have hEv : jEv base ro s s.heap := hC.2.2.2.2.2.2.2.2.2.2.1
  obtain ⟨-, ⟨adV, hV⟩, -, z1, z2, -⟩ := hEv
  obtain ⟨o1, o2, o3, o4⟩ := hV.1 k hk
  have hq := hI.2.1.2.1
  have had : jad base ro (2000000 + k) = ro (2000000 + k) := by unfold jad; rw [if_neg (by omega)]
  have hIc := hI.2.2.2.1
  have i5 := hI.2.2.2.2.1
  have e1 := (sI_l k hk).1
  have e2 := (sI_l k hk).2
  show W p l e R s m args below meth c H locs cells slots Q (F0 m pc ls ([].reverse ++ .ref (jad base ro (2000000 + k)) :: st.map (jv (jad base ro))))
  rw [had]
  refine sx_run (va_runV (As := []) (rest := st.map (jv (jad base ro))) (b := ro (2000000 + k)) (nL := jM j) (C := "java/lang/String") ⟨hC.1, hC.2.1, hC.2.2.1, hC.2.2.2.1, hts⟩ (sm_le l base (ro (2000000 + k)) (adV k) (jSls.getD k 0) (fun j => .int ((jSbs.getD k []).getD j 0))) (cwV 0 hts (sGood (fun w hw => ?_)) rfl rfl rfl ⟨rfl, by decide, by decide, by decide +kernel⟩ ⟨by show 1 + 1 ≤ R.frames; omega, by show 8 + (1 + 11) + 20 ≤ R.locals; omega⟩) ⟨fun a9 U g mk h => ⟨h.1, va_Z.moved (u := U) (U := U.calling g mk a9) (Vm.Alike.refl U.vm) h.2.1, va_OF.moved (u := U) (U := U.calling g mk a9) (Vm.Alike.refl U.vm) h.2.2.1, va_O.moved (u := U) (U := U.calling g mk a9) (Vm.Alike.refl U.vm) h.2.2.2.1, va_OF.moved (u := U) (U := U.calling g mk a9) (Vm.Alike.refl U.vm) h.2.2.2.2.1, va_T.moved (u := U) (U := U.calling g mk a9) (Vm.Alike.refl U.vm) h.2.2.2.2.2⟩, (by obtain ⟨cell, q1, q2, q3, -⟩ := o1.kept hq; exact ⟨cell, q1, q2, q3⟩), fun U hU hW => ⟨rfl, ?_⟩⟩ rfl rfl hL.1 rfl (lv_room (by rw [jcat_map]; exact hst)) hd ⟨by omega, by omega⟩) ?_
  · simp only [wsV, List.mem_append, List.mem_cons, List.not_mem_nil, or_false] at hw
    rcases hw with (rfl | rfl | rfl | rfl) | hw
    · exact hlk
    · exact sw_n_le
    · exact sw_s_le
    · exact sw_iS
    · rcases List.mem_cons.mp hw with rfl | hw
      · exact sw_c_le
      · exact hw
  · dsimp only
    rw [hU]
    exact ⟨(va_Z.moved hW.alike z1).kept hq, (va_OF.moved hW.alike o2).kept hq, (va_O.moved hW.alike o1).kept hq, (va_OF.moved hW.alike o3).kept hq, (va_T.moved hW.alike o4).kept hq⟩
  · rw [e1, e2]
    exact kk p e R s m args below meth c D dA base ro N0 S0 Q ls H locs cells slots hC hc hs hend hL hI
theorem je_schr {idx k : Nat} {i : Nat} (hin : i < (sI k).length) (hG1 : G.2.1 ≤ G'.2.1) (hG2 : G.2.2 ≤ G'.2.2) (hi : jIns j pc = some (.invokevirtual idx, 3, 10006)) (hk : k < 13) (hK : Nat.ble 5 (jK j) = true) (hst : (st.map fun v => v.category).sum ≤ 8) (kk : jE l j (pc + 3) L (.int (jI ((sI k).getD i 0)) :: st) G v G') : jE l j pc L (.int (jI (i : Int)) :: .ref (2000000 + k) :: st) G v G' := by
  intro p e R s m args below meth c D dA base ro N0 S0 Q ls H locs cells slots hC hc hs hend hL hI
  obtain ⟨hd, hok⟩ := jdec hi
  obtain ⟨d, hd9⟩ := jHas_spec (show jHas jSC (jO j) idx 10006 = true from hok)
  have hlk := sSC _ hd9
  have hts := hC.2.2.2.2.1
  have hK5 := Nat.le_of_ble_eq_true hK
  have hfr : jK j ≤ R.frames := hC.2.2.2.2.2.2.2.1
  have hlo : 36 * jK j ≤ R.locals := hC.2.2.2.2.2.2.2.2.1
  have hEv : jEv base ro s s.heap := hC.2.2.2.2.2.2.2.2.2.2.1
  obtain ⟨-, ⟨adV, hV⟩, -, z1, z2, -⟩ := hEv
  obtain ⟨o1, o2, o3, o4⟩ := hV.1 k hk
  have hq := hI.2.1.2.1
  have had : jad base ro (2000000 + k) = ro (2000000 + k) := by unfold jad; rw [if_neg (by omega)]
  have hIc := hI.2.2.2.1
  have i5 := hI.2.2.2.2.1
  have e1 := (sI_l k hk).1
  obtain ⟨x1, x2, x3, x4, x5⟩ := sI_v k hk i hin
  show W p l e R s m args below meth c H locs cells slots Q (F0 m pc ls ([.int (jI (i : Int))].reverse ++ .ref (jad base ro (2000000 + k)) :: st.map (jv (jad base ro))))
  rw [had]
  refine sx_run (va_runV (As := [.int (jI (i : Int))]) (rest := st.map (jv (jad base ro))) (b := ro (2000000 + k)) (nL := jM j) (C := "java/lang/String") ⟨hC.1, hC.2.1, hC.2.2.1, hC.2.2.2.1, hts⟩ (sm_ca l base (ro (2000000 + k)) (adV k) (jSls.getD k 0) (fun j => .int ((jSbs.getD k []).getD j 0)) (jI (i : Int)) ((jSbs.getD k []).getD i 0) (jI ((sI k).getD i 0)) x3 (by rw [e1]; exact x4) (by rw [x5, e1]; exact hin) (by rw [x5]) x1 x2) (cwV 1 hts (sGood (fun w hw => ?_)) rfl rfl rfl ⟨rfl, by decide, by decide, by decide +kernel⟩ ⟨by show 3 + 1 ≤ R.frames; omega, by show 8 + (2 + 11) + 64 ≤ R.locals; omega⟩) ⟨fun a9 U g mk h => ⟨h.1, ⟨va_Z.moved (u := U) (U := U.calling g mk a9) (Vm.Alike.refl U.vm) h.2.1.1, va_OF.moved (u := U) (U := U.calling g mk a9) (Vm.Alike.refl U.vm) h.2.1.2.1, va_O.moved (u := U) (U := U.calling g mk a9) (Vm.Alike.refl U.vm) h.2.1.2.2.1, va_OF.moved (u := U) (U := U.calling g mk a9) (Vm.Alike.refl U.vm) h.2.1.2.2.2.1, va_T.moved (u := U) (U := U.calling g mk a9) (Vm.Alike.refl U.vm) h.2.1.2.2.2.2⟩, va_Zq.moved (u := U) (U := U.calling g mk a9) (Vm.Alike.refl U.vm) h.2.2⟩, (by obtain ⟨cell, q1, q2, q3, -⟩ := o1.kept hq; exact ⟨cell, q1, q2, q3⟩), fun U hU hW => ⟨rfl, ?_⟩⟩ rfl rfl hL.1 rfl (lv_room (by rw [jcat_map]; exact hst)) hd ⟨by omega, by omega⟩) ?_
  · simp only [wsV, List.mem_append, List.mem_cons, List.not_mem_nil, or_false] at hw
    rcases hw with (rfl | rfl | rfl | rfl) | hw
    · exact hlk
    · exact sw_n_ca
    · exact sw_s_ca
    · exact sw_iS
    · rcases List.mem_cons.mp hw with rfl | hw
      · exact sw_c_ca
      · exact hw
  · dsimp only
    rw [hU]
    exact ⟨⟨(va_Z.moved hW.alike z1).kept hq, (va_OF.moved hW.alike o2).kept hq, (va_O.moved hW.alike o1).kept hq, (va_OF.moved hW.alike o3).kept hq, (va_T.moved hW.alike o4).kept hq⟩, (va_Zq.moved hW.alike z2).kept hq⟩
  · exact kk p e R s m args below meth c D dA base ro N0 S0 Q ls H locs cells slots hC hc hs hend hL hI
end SY
