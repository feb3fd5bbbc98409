/-! the judgement: a method's code at a place, with locals, stack and memory by names of cells, comes to its return -/
abbrev jG : Type := (Nat → va_E) × Nat × Nat
abbrev jLo : Type := List (Option Value)
def jJ : va_E := .inr (999, [])
def jup (G : jG) (i : Nat) (c : va_E) : jG := (va_up G.1 i c, G.2)
def jad (base : Nat) (ro : Nat → Nat) (i : Nat) : Nat := if i < 1000000 then base + i else ro i
def jv (ad : Nat → Nat) (v : Value) : Value := match v with
  | .ref a => .ref (ad a)
  | .int x => .int x
  | .long x => .long x
  | .float x => .float x
  | .double x => .double x
  | .null => .null
  | .retAddr x => .retAddr x
theorem jv_cat (ad : Nat → Nat) (v : Value) : (jv ad v).category = v.category := by cases v <;> rfl
def jA (ad : Nat → Nat) (a : vp_A) : vp_A := (a.1, match a.2 with
  | .inl f => .inl f
  | .inr (.inl f) => .inr (.inl f)
  | .inr (.inr (.inl f)) => .inr (.inr (.inl f))
  | .inr (.inr (.inr (.inl f))) => .inr (.inr (.inr (.inl f)))
  | .inr (.inr (.inr (.inr f))) => .inr (.inr (.inr (.inr (fun k => (f k).map ad)))))
def jcell (ad : Nat → Nat) (dA : Nat → ClassId) (c : va_E) : va_E := match c with
  | .inl a => .inl (dA a.1, jA ad a.2)
  | .inr o => .inr (o.1, o.2.map (jv ad))
def jWs (dA : Nat → ClassId) (base : Nat) (ro : Nat → Nat) (G : jG) : va_W := (List.range G.2.1).map (fun i => (base + i, jcell (jad base ro) dA (G.1 i)))
def jTy (dA : Nat → ClassId) : List (ClassId × FieldType) := [(dA 13, .int), (dA 14, .long), (dA 15, .boolean), (dA 16, .object "TailPatches$Row"), (dA 17, .object "TailPatches$State")]
/-- locals: those that are told -/
def jLs (ad : Nat → Nat) (ls : Array Slot) (nL : Nat) (L : jLo) : Prop := ls.size = nL ∧ lv_wf ls ∧ L.length = nL ∧ ∀ (i : Nat) (v : Value), L[i]? = some (some v) → ls[i]? = some (.val (jv ad v))
/-- what stands below the law's own cells: the three static rows, the text constants -/
def jSo (k : Nat) : String := bif Nat.blt k 9 then "TailPatches$Recipe" else "TailPatches$Lister"
def jSi (k : Nat) : Nat := [88, 98, 125, 107, 109, 111, 116, 118, 120, 56, 65, 73, 75].getD k 0
def jSt (k : Nat) : String := ["take", "at", "by", "fill", "with", "say", "again", "back", "times", "take ", " at ", " by ", "say "].getD k ""
def jSb (k : Nat) : List Int32 := [[116, 97, 107, 101], [97, 116], [98, 121], [102, 105, 108, 108], [119, 105, 116, 104], [115, 97, 121], [97, 103, 97, 105, 110], [98, 97, 99, 107], [116, 105, 109, 101, 115], [116, 97, 107, 101, 32], [32, 97, 116, 32], [32, 98, 121, 32], [115, 97, 121, 32]].getD k []
def jSbs : List (List Int32) := (List.range 13).map jSb
def jSls : List Nat := (List.range 13).map (fun k => (jSb k).length)
def jB (base : Nat) : Nat → Prop := fun q => base ≤ q
def jEv (base : Nat) (ro : Nat → Nat) (U : State) (H : Heap) : Prop :=
  (∀ k, k < 3 → va_Z "TailPatches" (jSn k) "[I" (.ref (ro (3000000 + k))) (jB base) U H) ∧ (∃ adV : Nat → Nat, vk_S 13 jSls jSbs (fun k => ro (2000000 + k)) adV (jB base) U H) ∧ (∀ k, k < 13 → vk_R (jSo k) (jSi k) (jSt k) (ro (2000000 + k)) U) ∧ va_Z "java/lang/String" "COMPACT_STRINGS" "Z" (.int 1) (jB base) U H ∧ va_Zq "jdk/internal/util/Preconditions" "SIOOBE_FORMATTER" "Ljava/util/function/BiFunction;" (jB base) U H ∧ va_AO "TailPatches$Row" U ∧ va_AO "TailPatches$State" U
/-- rows of ints that are read alone: the script, the statics -/
def jRO (base : Nat) (ro : Nat → Nat) (G : jG) (U : State) (H : Heap) : Prop := ∀ i, 1000000 ≤ i → G.1 i = jJ ∨ ∃ (n : Nat) (xs : Nat → Int32), G.1 i = .inl (100, n, .inl xs) ∧ va_T .int (ro i) n (fun k => .int (xs k)) (jB base) U H
/-- what a method's code runs over -/
def jCx (j : Nat) (p : Program) (R : Room) (s : State) (m : MethodId) (args : Array Value) (meth : Method) (c : Code) (D : va_G) (dA : Nat → ClassId) (base : Nat) (ro : Nat → Nat) : Prop :=
  p.tables.exec = Jvm.exec ∧ c.code = jC j ∧ c.maxLocals = jM j ∧ s.vm.findClass (jOw j) = some m.cls ∧ (∀ w ∈ jTb, w.before args s = true) ∧ va_K D vwCl (jTy dA) s ∧ base ≤ s.heap.size ∧ jK j ≤ R.frames ∧ 36 * jK j ≤ R.locals ∧ ((jY j).name = "<init>" → meth.name = "<init>") ∧ jEv base ro s s.heap ∧ meth.locks = false
def jIv (D : va_G) (dA : Nat → ClassId) (base : Nat) (ro : Nat → Nat) (s : State) (G : jG) (H : Heap) (locs : List Loc) (cells slots N0 S0 : Nat) : Prop :=
  va_P D vwCl (jWs dA base ro G) H ∧ va_S (jB base) s.heap H locs ∧ s.heap.size = base + N0 ∧ N0 + cells = G.2.1 ∧ S0 + slots = G.2.2 ∧ (∀ i, G.2.1 ≤ i → i < 1000000 → G.1 i = jJ) ∧ G.2.1 ≤ 1000000 ∧ jRO base ro G s s.heap
/-- the instruction that returns v -/
def jRt (j pc : Nat) (v : Option Value) (sr : List Value) : Prop := match v with
  | none => jIns j pc = some (.return_, 1, 0) ∧ sr = []
  | some (.int x) => jIns j pc = some (.ireturn, 1, 0) ∧ sr = [.int x]
  | some w => jIns j pc = some (.areturn, 1, 0) ∧ sr = [w] ∧ ∃ a, w = .ref a
def jE (l : Launch) (j pc : Nat) (L : jLo) (st : List Value) (G : jG) (v : Option Value) (G' : jG) : Prop :=
  ∀ (p : Program) (e : Env) (R : Room) (s : State) (m : MethodId) (args : Array Value) (below : List Frame) (meth : Method) (c : Code) (D : va_G) (dA : Nat → ClassId) (base : Nat) (ro : Nat → Nat) (N0 S0 : Nat) (Q : State → Prop) (ls : Array Slot) (H : Heap) (locs : List Loc) (cells slots : Nat),
  jCx j p R s m args meth c D dA base ro → G'.2.1 ≤ N0 + R.cells → G'.2.2 ≤ S0 + R.slots →
  (∀ (pcr : Nat) (lsr : Array Slot) (sr : List Value) (H' : Heap) (locs' : List Loc) (cells' slots' : Nat), jRt j pcr v sr → jIv D dA base ro s G' H' locs' cells' slots' N0 S0 → W p l e R s m args below meth c H' locs' cells' slots' Q (F0 m pcr lsr (sr.map (jv (jad base ro))))) →
  jLs (jad base ro) ls (jM j) L → jIv D dA base ro s G H locs cells slots N0 S0 →
  W p l e R s m args below meth c H locs cells slots Q (F0 m pc ls (st.map (jv (jad base ro))))
-- memory, as a world
theorem jWs_get {dA : Nat → ClassId} {base : Nat} {ro : Nat → Nat} {G : jG} {i : Nat} (h : i < G.2.1) : (jWs dA base ro G)[i]? = some (base + i, jcell (jad base ro) dA (G.1 i)) := by
  simp [jWs, h]
theorem jWs_set {dA : Nat → ClassId} {base : Nat} {ro : Nat → Nat} {G : jG} {i : Nat} (c : va_E) : (jWs dA base ro G).set i (base + i, jcell (jad base ro) dA c) = jWs dA base ro (jup G i c) := by
  apply List.ext_getElem?
  intro k
  by_cases hk : k < G.2.1
  · by_cases e : i = k
    · subst e
      rw [List.getElem?_set_self (by simpa [jWs] using hk), jWs_get (by exact hk)]
      simp [jup, va_up]
    · rw [List.getElem?_set_ne e, jWs_get hk, jWs_get (by exact hk)]
      simp [jup, va_up, Ne.symm e]
  · rw [List.getElem?_eq_none (by simpa [jWs] using hk), List.getElem?_eq_none (by simpa [jWs, jup] using hk)]
theorem jWs_push {dA : Nat → ClassId} {base : Nat} {ro : Nat → Nat} {G : jG} (c : va_E) (n S : Nat) (hn : n = G.2.1) : jWs dA base ro G ++ [(base + n, jcell (jad base ro) dA c)] = jWs dA base ro (va_up G.1 n c, n + 1, S) := by
  subst hn
  show _ = (List.range (G.2.1 + 1)).map _
  rw [List.range_succ, List.map_append]
  congr 1
  · apply List.map_congr_left
    intro i hi
    have := List.mem_range.mp hi
    simp [va_up, Nat.ne_of_lt this]
  · simp [va_up]
theorem jWs_D {dA : Nat → ClassId} {base : Nat} {ro : Nat → Nat} {G : jG} : va_D (jB base) (jWs dA base ro G) := by
  have key : ∀ (k : Nat) (q : Nat × va_E), (jWs dA base ro G)[k]? = some q → q.1 = base + k := by
    intro k q h
    by_cases hk : k < G.2.1
    · rw [jWs_get hk] at h
      cases h
      rfl
    · rw [List.getElem?_eq_none (by simpa [jWs] using hk)] at h
      cases h
  refine ⟨fun i j a b ha hb h => ?_, fun k q h => ?_⟩
  · have h1 := key i a ha
    have h2 := key j b hb
    omega
  · have h1 := key k q h
    show base ≤ q.1
    omega
theorem jIv_obj {D : va_G} {dA : Nat → ClassId} {base : Nat} {ro : Nat → Nat} {s : State} {G : jG} {H : Heap} {locs : List Loc} {cells slots N0 S0 : Nat} (h : jIv D dA base ro s G H locs cells slots N0 S0) {i c : Nat} {fs : List Value} (hc : c < 999) (e : G.1 i = .inr (c, fs)) : i < G.2.1 ∧ jad base ro i = base + i := by
  obtain ⟨-, -, -, -, -, hj, hN, hR⟩ := h
  have h1 : i < 1000000 := by
    rcases Nat.lt_or_ge i 1000000 with q | q
    · exact q
    · rcases hR i q with z | ⟨n, xs, z, -⟩
      · rw [e] at z
        have := congrArg (fun x : va_E => match x with | .inr y => y.1 | .inl _ => 0) z
        simp only [jJ] at this
        omega
      · rw [e] at z; cases z
  have h2 : i < G.2.1 := by
    rcases Nat.lt_or_ge i G.2.1 with q | q
    · exact q
    · have z := hj i q h1
      rw [e] at z
      have := congrArg (fun x : va_E => match x with | .inr y => y.1 | .inl _ => 0) z
      simp only [jJ] at this
      omega
  exact ⟨h2, by simp [jad, h1]⟩
theorem jIv_arr {D : va_G} {dA : Nat → ClassId} {base : Nat} {ro : Nat → Nat} {s : State} {G : jG} {H : Heap} {locs : List Loc} {cells slots N0 S0 : Nat} (h : jIv D dA base ro s G H locs cells slots N0 S0) {i k : Nat} {a : vp_A} (hk : k < 100) (e : G.1 i = .inl (k, a)) : i < G.2.1 ∧ jad base ro i = base + i := by
  obtain ⟨-, -, -, -, -, hj, hN, hR⟩ := h
  have h1 : i < 1000000 := by
    rcases Nat.lt_or_ge i 1000000 with q | q
    · exact q
    · rcases hR i q with z | ⟨n, xs, z, -⟩
      · rw [e] at z; cases z
      · rw [e] at z
        simp only [Sum.inl.injEq, Prod.mk.injEq] at z
        exact absurd z.1 (show ¬ k = 100 by omega)
  have h2 : i < G.2.1 := by
    rcases Nat.lt_or_ge i G.2.1 with q | q
    · exact q
    · have z := hj i q h1
      rw [e] at z; cases z
  exact ⟨h2, by simp [jad, h1]⟩
theorem jIv_get {D : va_G} {dA : Nat → ClassId} {base : Nat} {ro : Nat → Nat} {s : State} {G : jG} {H : Heap} {locs : List Loc} {cells slots N0 S0 : Nat} (h : jIv D dA base ro s G H locs cells slots N0 S0) {i : Nat} (hi : i < G.2.1) : (jWs dA base ro G)[i]? = some (jad base ro i, jcell (jad base ro) dA (G.1 i)) := by
  rw [jWs_get hi]
  have : i < 1000000 := Nat.lt_of_lt_of_le hi h.2.2.2.2.2.2.1
  simp [jad, this]
/-- a cell is written -/
theorem jIv_put {D : va_G} {dA : Nat → ClassId} {base : Nat} {ro : Nat → Nat} {s : State} {G : jG} {H H1 : Heap} {locs locs1 : List Loc} {cells slots N0 S0 : Nat} (h : jIv D dA base ro s G H locs cells slots N0 S0) {i : Nat} (hi : i < G.2.1) (c : va_E)
    (hP : va_P D vwCl ((jWs dA base ro G).set i (jad base ro i, jcell (jad base ro) dA c)) H1) (hS : va_S (jB base) s.heap H1 locs1) : jIv D dA base ro s (jup G i c) H1 locs1 cells slots N0 S0 := by
  obtain ⟨-, -, h3, h4, h5, hj, hN, hR⟩ := h
  have hi' : i < 1000000 := Nat.lt_of_lt_of_le hi hN
  rw [show jad base ro i = base + i by simp [jad, hi'], jWs_set] at hP
  refine ⟨hP, hS, h3, h4, h5, fun k hk hk2 => ?_, hN, fun k hk => ?_⟩
  · have hk' : G.2.1 ≤ k := hk
    show va_up G.1 i c k = jJ
    rw [va_up, if_neg (by omega)]
    exact hj k hk' hk2
  · have e : (jup G i c).1 k = G.1 k := by
      show va_up G.1 i c k = G.1 k
      rw [va_up, if_neg (by omega)]
    rw [e]
    exact hR k hk
/-- locals -/
def jlv (ad : Nat → Nat) (L : jLo) : List (Nat × Value) := (List.range L.length).filterMap (fun i => (L.getD i none).map (fun v => (i, jv ad v)))
theorem jlv_mem {ad : Nat → Nat} {L : jLo} {i : Nat} {v : Value} (h : L[i]? = some (some v)) : (i, jv ad v) ∈ jlv ad L := by
  have hl := (List.getElem?_eq_some_iff.mp h).1
  refine List.mem_filterMap.mpr ⟨i, List.mem_range.mpr hl, ?_⟩
  simp [List.getD, h]
theorem jLs_has {ad : Nat → Nat} {ls : Array Slot} {nL : Nat} {L : jLo} (h : jLs ad ls nL L) : lv_has ls nL (jlv ad L) := by
  obtain ⟨h1, h2, h3, h4⟩ := h
  refine ⟨h1, h2, fun q hq => ?_⟩
  obtain ⟨i, -, hi⟩ := List.mem_filterMap.mp hq
  cases e : L.getD i none with
  | none => rw [e] at hi; cases hi
  | some v =>
    rw [e] at hi
    cases hi
    refine h4 i v ?_
    cases e2 : L[i]? with
    | none => simp [List.getD, e2] at e
    | some w => simp [List.getD, e2] at e; rw [e]
/-- no long stands just ahead -/
def jnl (L : jLo) (i : Nat) : Bool := match i with
  | 0 => true
  | k + 1 => match L[k]? with
    | some (some v) => Nat.beq v.category 1
    | _ => true
theorem jLs_set {ad : Nat → Nat} {ls ls' : Array Slot} {nL i : Nat} {L : jLo} {v : Value} (h : jLs ad ls nL L) (hi : i < L.length) (hn : jnl L i = true)
    (h' : lv_has ls' nL ((i, jv ad v) :: (jlv ad L).filter (fun q => !(q.1 == i) && !(q.1 + 1 == i && q.2.category == 2)))) : jLs ad ls' nL (L.set i (some v)) := by
  obtain ⟨h1, h2, h3, h4⟩ := h
  refine ⟨h'.1, h'.2.1, by simpa using h3, fun k w hk => ?_⟩
  by_cases e : i = k
  · subst e
    rw [List.getElem?_set_self hi] at hk
    cases hk
    exact h'.2.2 (i, jv ad v) List.mem_cons_self
  · rw [List.getElem?_set_ne e] at hk
    refine h'.2.2 (k, jv ad w) (List.mem_cons_of_mem _ (List.mem_filter.mpr ⟨jlv_mem hk, ?_⟩))
    have c1 : (k == i) = false := by simpa using Ne.symm e
    have c2 : (k + 1 == i && (jv ad w).category == 2) = false := by
      by_cases z : k + 1 = i
      · subst z
        simp only [jnl, hk] at hn
        rw [jv_cat, Nat.eq_of_beq_eq_true hn]
        simp
      · have : (k + 1 == i) = false := by simpa using z
        simp [this]
    simp only [c1, c2]
    rfl
