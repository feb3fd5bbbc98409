/-! THE CLAIM OUT OF ONE WALK OF THE LAW'S BODY. Your part is whole_start (and what it stands on); all else here is the same for every law, but numbers. -/
def R_law : String := "TailPatchesLaw"
def lw_P (b : Addr) (xs : List Int32) (args : Array Value) (s : State) : Prop := args = #[.ref b] ∧ s.IntsAt b xs ∧ xs.length ≤ 3072 ∧ (Jvm.Cond.and given_1 narrow_1).before args s = true
def lw_Q (_ : Array Value) (s : State) (o : Outcome) (t : State) : Prop := o = .returned (some (.int 1)) ∧ Framed s o t [] 600000 7302250
def lw_Z (below : List Frame) (a : Array Value) (s : State) : State → Prop := fun t => ∃ o, t.status = .running ∧ Ended t below o ∧ lw_Q a s o t
/-- the law's own end, with 1 on the stack, nothing written that was there before, its room as the claim has it -/
theorem lw_ret {p : Program} {l : Launch} {e : Env} {s : State} {m : MethodId} {below : List Frame} {meth : Method} {c : Code} {b : Nat} (hx : p.tables.exec = Jvm.exec) (hb : c.code = code) (hr : meth.sig.returnType = ret) (hlocks : meth.locks = false) {pc : Nat} {H : Heap} {ls : Array Slot} (hdg : decode code pc = .ok (.ireturn, 1)) : W p l e room_1 s m #[Value.ref b] below meth c H [] 600000 7302250 (lw_Z below #[Value.ref b] s) (F0 m pc ls [.int 1]) := by
  intro T hT X
  obtain ⟨fs, hret, hrun, hended, hW, hframe⟩ := X.leave (v := some (.int 1)) (hlocks := hlocks) (fun h => by rw [hr] at h; cases h)
  have hmeth' : T.vm.method? m = some meth := X.method'
  refine ⟨T.setFrames fs, ?_, .returned (some (.int 1)), hrun, hended, rfl, ⟨_, rfl⟩, hW, hframe⟩
  jvm_step X.here [X.here.top, hx, hb, hdg, hmeth', hr, ret, narrow_b1]
  (try refine ⟨rfl, ?_⟩); (try refine ⟨rfl, ?_⟩)
  first | (intro acts; rw [hret _ acts rfl rfl rfl]) | rw [hret _ _ rfl rfl rfl]
  exact Steps.refl _
/-- what holds at the law's entry: the machine, the code, the tables' words (any of lw_tbl by 'hts w (by decide +kernel)'), the script of L ints xs at the cell b, what the Statement gives of the start (any of its parts by flat_of_before) -/
def lw_At (p : Program) (s : State) (m : MethodId) (meth : Method) (c : Code) (b L : Nat) (xs : Nat → Int32) : Prop :=
  p.tables.exec = Jvm.exec ∧ c.code = code ∧ meth.sig.returnType = ret ∧ c.maxLocals = 4 ∧ s.vm.findClass R_law = some m.cls ∧ (∀ w ∈ lw_tbl, w.before #[Value.ref b] s = true) ∧ va_X b L xs s s.heap ∧ b < s.heap.size ∧ meth.locks = false ∧ (Jvm.Cond.and given_1 narrow_1).before #[Value.ref b] s = true
/-! what the statement gives of the start, in the words of the rows above -/
def jtm (k : Nat) : Term := .string (jSo k) (jSi k)
theorem g_ex : ∀ i, i < 13 → Cond.exactly (jtm i) "java/lang/String" ∈ flatC (Cond.and given_1 narrow_1) := by decide +kernel
theorem g_co : ∀ i, i < 13 → Cond.eq (.field (jtm i) "java/lang/String" "coder" "B") (.int 0) ∈ flatC (Cond.and given_1 narrow_1) := by decide +kernel
theorem g_ar : ∀ i, i < 13 → Cond.arrayOf (.field (jtm i) "java/lang/String" "value" "[B") .byte ∈ flatC (Cond.and given_1 narrow_1) := by decide +kernel
theorem g_le : ∀ i, i < 13 → Cond.eq (.length (.field (jtm i) "java/lang/String" "value" "[B")) (.int (Int32.ofNat (jSls.getD i 0))) ∈ flatC (Cond.and given_1 narrow_1) := by decide +kernel
theorem g_el : ∀ i, i < 13 → ∀ j, j < jSls.getD i 0 → Cond.eq (.elem (.field (jtm i) "java/lang/String" "value" "[B") (.int (Int32.ofNat j))) (.int ((jSbs.getD i []).getD j 0)) ∈ flatC (Cond.and given_1 narrow_1) := by decide +kernel
theorem g_n0 : ∀ j, j < 13 → ∀ i, i < j → Cond.not (Cond.eq (jtm i) (jtm j)) ∈ flatC (Cond.and given_1 narrow_1) := by decide +kernel
theorem g_sr : ∀ i, i < 13 → Cond.stringRef (jSo i) (jSi i) (jSt i) ∈ lw_tbl := by decide +kernel
theorem g_s1 : ∀ k, k < 3 → Cond.arrayOf (.static "TailPatches" (jSn k) "[I") .int ∈ flatC (Cond.and given_1 narrow_1) ∧ Cond.eq (.length (.static "TailPatches" (jSn k) "[I")) (.int (Int32.ofNat 5)) ∈ flatC (Cond.and given_1 narrow_1) := by decide +kernel
theorem g_s2 : ∀ k, k < 3 → ∀ j, j < 5 → Cond.eq (.elem (.static "TailPatches" (jSn k) "[I") (.int (Int32.ofNat j))) (.int (jI (jst (3000000 + k) j))) ∈ flatC (Cond.and given_1 narrow_1) := by decide +kernel
theorem g_s3 : ∀ k, k < 3 → Cond.laysStatic "TailPatches" (jSn k) "[I" ∈ lw_tbl := by decide +kernel
theorem g_t1 : Cond.initialized "TailPatches" ∈ lw_tbl ∧ Cond.laysStatic "java/lang/String" "COMPACT_STRINGS" "Z" ∈ lw_tbl ∧ Cond.initialized "java/lang/String" ∈ lw_tbl := by decide +kernel
theorem g_t2 : Cond.laysStatic "jdk/internal/util/Preconditions" "SIOOBE_FORMATTER" "Ljava/util/function/BiFunction;" ∈ lw_tbl ∧ Cond.initialized "jdk/internal/util/Preconditions" ∈ lw_tbl := by decide +kernel
theorem g_t3 : Cond.arrayOver (.object "TailPatches$Row") ∈ lw_tbl ∧ Cond.arrayOver (.object "TailPatches$State") ∈ lw_tbl := by decide +kernel
theorem g_t4 : Cond.arrayClass .int ∈ lw_tbl ∧ Cond.arrayClass .long ∈ lw_tbl ∧ Cond.arrayClass .boolean ∈ lw_tbl := by decide +kernel
theorem g_c1 : Cond.eq (.static "java/lang/String" "COMPACT_STRINGS" "Z") (.int 1) ∈ flatC (Cond.and given_1 narrow_1) ∧ Cond.isRef (.static "jdk/internal/util/Preconditions" "SIOOBE_FORMATTER" "Ljava/util/function/BiFunction;") ∈ flatC (Cond.and given_1 narrow_1) := by decide +kernel
theorem g_in : ∀ c, c < 13 → ∀ r, vwCl[c]? = some r → Cond.instantiable r.1 r.2.2 ∈ jTb := by
  intro c hc r hr
  match c, hc with
  | 0, _ => cases hr; exact jAt_mem (p := 312) (by decide +kernel)
  | 1, _ => cases hr; exact jAt_mem (p := 491) (by decide +kernel)
  | 2, _ => cases hr; exact jAt_mem (p := 599) (by decide +kernel)
  | 3, _ => cases hr; exact jAt_mem (p := 318) (by decide +kernel)
  | 4, _ => cases hr; exact jAt_mem (p := 376) (by decide +kernel)
  | 5, _ => cases hr; exact jAt_mem (p := 612) (by decide +kernel)
  | 6, _ => cases hr; exact jAt_mem (p := 401) (by decide +kernel)
  | 7, _ => cases hr; exact jAt_mem (p := 540) (by decide +kernel)
  | 8, _ => cases hr; exact jAt_mem (p := 198) (by decide +kernel)
  | 9, _ => cases hr; exact jAt_mem (p := 192) (by decide +kernel)
  | 10, _ => cases hr; exact jAt_mem (p := 280) (by decide +kernel)
  | 11, _ => cases hr; exact jAt_mem (p := 184) (by decide +kernel)
  | 12, _ => cases hr; exact jAt_mem (p := 1584) (by decide +kernel)
