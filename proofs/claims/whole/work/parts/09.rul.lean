/-! rules of the judgement: numbers, locals, stack, branches -/
def jI (z : Int) : Int32 := Int32.ofInt z
def jl (z : Int) : Int64 := Int64.ofInt z
def jr (z : Int) : Prop := -2147483648 ≤ z ∧ z < 2147483648
def jrl (z : Int) : Prop := -9223372036854775808 ≤ z ∧ z < 9223372036854775808
theorem jI_toInt {z : Int} (h : jr z) : (jI z).toInt = z := by
  unfold jr at h
  rw [jI, Int32.toInt_ofInt]
  show z.bmod 4294967296 = z
  exact Int.bmod_eq_of_le (by omega) (by omega)
theorem jl_toInt {z : Int} (h : jrl z) : (jl z).toInt = z := by
  unfold jrl at h
  rw [jl, Int64.toInt_ofInt]
  show z.bmod 18446744073709551616 = z
  exact Int.bmod_eq_of_le (by omega) (by omega)
theorem jI_of (x : Int32) : ∃ z : Int, jr z ∧ x = jI z := ⟨x.toInt, ⟨by have := Int32.le_toInt x; omega, by have := Int32.toInt_lt x; omega⟩, by rw [jI, Int32.ofInt_toInt]⟩
theorem jI_add (x y : Int) : jI x + jI y = jI (x + y) := (Int32.ofInt_add x y).symm
theorem jI_sub (x y : Int) : jI x - jI y = jI (x - y) := (Int32.ofInt_sub x y).symm
theorem jI_mul (x y : Int) : jI x * jI y = jI (x * y) := (Int32.ofInt_mul x y).symm
theorem jI_neg (x : Int) : -jI x = jI (-x) := (Int32.ofInt_neg x).symm
theorem jl_add (x y : Int) : jl x + jl y = jl (x + y) := (Int64.ofInt_add x y).symm
theorem jl_sub (x y : Int) : jl x - jl y = jl (x - y) := (Int64.ofInt_sub x y).symm
theorem jl_mul (x y : Int) : jl x * jl y = jl (x * y) := (Int64.ofInt_mul x y).symm
theorem jI_eq {x y : Int} (hx : jr x) (hy : jr y) : jI x = jI y ↔ x = y := ⟨fun h => by rw [← jI_toInt hx, ← jI_toInt hy, h], fun h => by rw [h]⟩
theorem jI_lt {x y : Int} (hx : jr x) (hy : jr y) : jI x < jI y ↔ x < y := by rw [Int32.lt_iff_toInt_lt, jI_toInt hx, jI_toInt hy]
theorem jI_le {x y : Int} (hx : jr x) (hy : jr y) : jI x ≤ jI y ↔ x ≤ y := by rw [Int32.le_iff_toInt_le, jI_toInt hx, jI_toInt hy]
theorem jr_0 : jr 0 := ⟨by omega, by omega⟩
theorem jI_0 : jI 0 = 0 := rfl
theorem jl_eq {x y : Int} (hx : jrl x) (hy : jrl y) : jl x = jl y ↔ x = y := ⟨fun h => by rw [← jl_toInt hx, ← jl_toInt hy, h], fun h => by rw [h]⟩
theorem jl_lt {x y : Int} (hx : jrl x) (hy : jrl y) : jl x < jl y ↔ x < y := by rw [Int64.lt_iff_toInt_lt, jl_toInt hx, jl_toInt hy]
theorem jI_l {x : Int} (hx : jr x) : (jI x).toInt64 = jl x := by
  apply Int64.toInt_inj.mp
  rw [Int32.toInt_toInt64, jI_toInt hx, jl_toInt ⟨by have := hx.1; omega, by have := hx.2; omega⟩]
theorem jl_i {x : Int} (hx : jr x) : (jl x).toInt32 = jI x := by
  apply Int32.toInt_inj.mp
  rw [Int64.toInt_toInt32, jI_toInt hx, jl_toInt ⟨by have := hx.1; omega, by have := hx.2; omega⟩]
  exact Int.bmod_eq_of_le (by have := hx.1; omega) (by have := hx.2; omega)
theorem jI_div {x y : Int} (hx : 0 ≤ x) (hx2 : x < 2147483648) (hy : 0 < y) (hy2 : y < 2147483648) : jI x / jI y = jI (x / y) := by
  apply Int32.toInt_inj.mp
  have h1 : x / y ≤ x := Int.ediv_le_self _ hx
  have h0 : 0 ≤ x / y := Int.ediv_nonneg hx (by omega)
  rw [Int32.toInt_div, jI_toInt ⟨by omega, hx2⟩, jI_toInt ⟨by omega, hy2⟩, jI_toInt ⟨by omega, by omega⟩, Int.tdiv_eq_ediv_of_nonneg hx]
  exact Int.bmod_eq_of_le (by omega) (by omega)
theorem jI_rem {x y : Int} (hx : 0 ≤ x) (hx2 : x < 2147483648) (hy : 0 < y) (hy2 : y < 2147483648) : jI x - jI x / jI y * jI y = jI (x % y) := by
  rw [jI_div hx hx2 hy hy2, jI_mul, jI_sub]
  congr 1
  rw [Int.emod_def, Int.mul_comm]
theorem jI_remT {x y : Int} (hx : jr x) (hy : 0 < y) (hy2 : y < 2147483648) : jI x - jI x / jI y * jI y = jI (x.tmod y) := by
  apply Int32.toInt_inj.mp
  have b := tmod_bounds (a := x) hy
  rw [rem_toInt, jI_toInt hx, jI_toInt ⟨by omega, hy2⟩, jI_toInt ⟨by omega, by omega⟩]
section JR
variable {l : Launch} {j pc : Nat} {L : jLo} {st : List Value} {G G' : jG} {v : Option Value}
theorem je_iconst {n : Int} (hi : jIns j pc = some (.iconst n, 1, 0)) (k : jE l j (pc + 1) L (.int (jI n) :: st) G v G') : jE l j pc L (st) G v G' := by
  intro p e R s m args below meth c D dA base ro N0 S0 Q ls H locs cells slots hC hc hs hend hL hI
  have hd := (jdec hi).1
  exact lv_iconst hC.1 hC.2.1 hd rfl (k p e R s m args below meth c D dA base ro N0 S0 Q ls H locs cells slots hC hc hs hend hL hI)
theorem je_bipush {n : Int} (hi : jIns j pc = some (.bipush n, 2, 0)) (hv : (Int8.ofInt n).toInt32 = jI n) (k : jE l j (pc + 2) L (.int (jI n) :: st) G v G') : jE l j pc L (st) G v G' := by
  intro p e R s m args below meth c D dA base ro N0 S0 Q ls H locs cells slots hC hc hs hend hL hI
  have hd := (jdec hi).1
  exact lv_bipush hC.1 hC.2.1 hd hv (k p e R s m args below meth c D dA base ro N0 S0 Q ls H locs cells slots hC hc hs hend hL hI)
theorem je_sipush {n : Int} (hi : jIns j pc = some (.sipush n, 3, 0)) (hv : (Int16.ofInt n).toInt32 = jI n) (k : jE l j (pc + 3) L (.int (jI n) :: st) G v G') : jE l j pc L (st) G v G' := by
  intro p e R s m args below meth c D dA base ro N0 S0 Q ls H locs cells slots hC hc hs hend hL hI
  have hd := (jdec hi).1
  exact lv_sipush hC.1 hC.2.1 hd hv (k p e R s m args below meth c D dA base ro N0 S0 Q ls H locs cells slots hC hc hs hend hL hI)
theorem je_lconst {n : Fin 2} {z : Int} (hi : jIns j pc = some (.lconst n, 1, 0)) (hv : Int64.ofNat (n : Nat) = jl z) (k : jE l j (pc + 1) L (.long (jl z) :: st) G v G') : jE l j pc L (st) G v G' := by
  intro p e R s m args below meth c D dA base ro N0 S0 Q ls H locs cells slots hC hc hs hend hL hI
  have hd := (jdec hi).1
  exact lv_lconst hC.1 hC.2.1 hd hv (k p e R s m args below meth c D dA base ro N0 S0 Q ls H locs cells slots hC hc hs hend hL hI)
theorem je_iload {i : Nat} {x : Int32} (hi : jIns j pc = some (.iload i, 2, 0)) (hl : L[i]? = some (some (.int x))) (k : jE l j (pc + 2) L (.int x :: st) G v G') : jE l j pc L st G v G' := by
  intro p e R s m args below meth c D dA base ro N0 S0 Q ls H locs cells slots hC hc hs hend hL hI
  exact lv_iload hC.1 hC.2.1 (jdec hi).1 (hL.2.2.2 i _ hl) (k p e R s m args below meth c D dA base ro N0 S0 Q ls H locs cells slots hC hc hs hend hL hI)
theorem je_iload_n {i : Fin 4} {x : Int32} (hi : jIns j pc = some (.iload_n i, 1, 0)) (hl : L[(i : Nat)]? = some (some (.int x))) (k : jE l j (pc + 1) L (.int x :: st) G v G') : jE l j pc L st G v G' := by
  intro p e R s m args below meth c D dA base ro N0 S0 Q ls H locs cells slots hC hc hs hend hL hI
  exact lv_iload_n hC.1 hC.2.1 (jdec hi).1 rfl (hL.2.2.2 _ _ hl) (k p e R s m args below meth c D dA base ro N0 S0 Q ls H locs cells slots hC hc hs hend hL hI)
theorem je_lload {i : Nat} {x : Int64} (hi : jIns j pc = some (.lload i, 2, 0)) (hl : L[i]? = some (some (.long x))) (k : jE l j (pc + 2) L (.long x :: st) G v G') : jE l j pc L st G v G' := by
  intro p e R s m args below meth c D dA base ro N0 S0 Q ls H locs cells slots hC hc hs hend hL hI
  exact lv_lload hC.1 hC.2.1 (jdec hi).1 (hL.2.2.2 i _ hl) (k p e R s m args below meth c D dA base ro N0 S0 Q ls H locs cells slots hC hc hs hend hL hI)
theorem je_lload_n {i : Fin 4} {x : Int64} (hi : jIns j pc = some (.lload_n i, 1, 0)) (hl : L[(i : Nat)]? = some (some (.long x))) (k : jE l j (pc + 1) L (.long x :: st) G v G') : jE l j pc L st G v G' := by
  intro p e R s m args below meth c D dA base ro N0 S0 Q ls H locs cells slots hC hc hs hend hL hI
  exact lv_lload_n hC.1 hC.2.1 (jdec hi).1 rfl (hL.2.2.2 _ _ hl) (k p e R s m args below meth c D dA base ro N0 S0 Q ls H locs cells slots hC hc hs hend hL hI)
theorem je_aload {i : Nat} {x : Nat} (hi : jIns j pc = some (.aload i, 2, 0)) (hl : L[i]? = some (some (.ref x))) (k : jE l j (pc + 2) L (.ref x :: st) G v G') : jE l j pc L st G v G' := by
  intro p e R s m args below meth c D dA base ro N0 S0 Q ls H locs cells slots hC hc hs hend hL hI
  exact lv_aload hC.1 hC.2.1 (jdec hi).1 (hL.2.2.2 i _ hl) (k p e R s m args below meth c D dA base ro N0 S0 Q ls H locs cells slots hC hc hs hend hL hI)
theorem je_aload_n {i : Fin 4} {x : Nat} (hi : jIns j pc = some (.aload_n i, 1, 0)) (hl : L[(i : Nat)]? = some (some (.ref x))) (k : jE l j (pc + 1) L (.ref x :: st) G v G') : jE l j pc L st G v G' := by
  intro p e R s m args below meth c D dA base ro N0 S0 Q ls H locs cells slots hC hc hs hend hL hI
  exact lv_aload_n hC.1 hC.2.1 (jdec hi).1 rfl (hL.2.2.2 _ _ hl) (k p e R s m args below meth c D dA base ro N0 S0 Q ls H locs cells slots hC hc hs hend hL hI)
theorem je_istore {i : Nat} {x : Int32} (hi : jIns j pc = some (.istore i, 2, 0)) (h1 : i < L.length) (h2 : jnl L i = true) (k : jE l j (pc + 2) (L.set i (some (.int x))) st G v G') : jE l j pc L (.int x :: st) G v G' := by
  intro p e R s m args below meth c D dA base ro N0 S0 Q ls H locs cells slots hC hc hs hend hL hI
  exact lv_istore hC.1 hC.2.1 (jdec hi).1 (jLs_has hL) (by rw [← hL.2.2.1]; exact h1) rfl (fun ls9 h9 => (k p e R s m args below meth c D dA base ro N0 S0 Q ls9 H locs cells slots hC hc hs hend (jLs_set (v := .int x) hL h1 h2 h9) hI))
theorem je_istore_n {i : Fin 4} {x : Int32} (hi : jIns j pc = some (.istore_n i, 1, 0)) (h1 : (i : Nat) < L.length) (h2 : jnl L (i : Nat) = true) (k : jE l j (pc + 1) (L.set (i : Nat) (some (.int x))) st G v G') : jE l j pc L (.int x :: st) G v G' := by
  intro p e R s m args below meth c D dA base ro N0 S0 Q ls H locs cells slots hC hc hs hend hL hI
  exact lv_istore_n hC.1 hC.2.1 (jdec hi).1 rfl (jLs_has hL) (by rw [← hL.2.2.1]; exact h1) rfl (fun ls9 h9 => (k p e R s m args below meth c D dA base ro N0 S0 Q ls9 H locs cells slots hC hc hs hend (jLs_set (v := .int x) hL h1 h2 h9) hI))
theorem je_astore {i : Nat} {x : Nat} (hi : jIns j pc = some (.astore i, 2, 0)) (h1 : i < L.length) (h2 : jnl L i = true) (k : jE l j (pc + 2) (L.set i (some (.ref x))) st G v G') : jE l j pc L (.ref x :: st) G v G' := by
  intro p e R s m args below meth c D dA base ro N0 S0 Q ls H locs cells slots hC hc hs hend hL hI
  exact lv_astore hC.1 hC.2.1 (jdec hi).1 (jLs_has hL) (by rw [← hL.2.2.1]; exact h1) rfl (fun ls9 h9 => (k p e R s m args below meth c D dA base ro N0 S0 Q ls9 H locs cells slots hC hc hs hend (jLs_set (v := .ref x) hL h1 h2 h9) hI))
theorem je_astore_n {i : Fin 4} {x : Nat} (hi : jIns j pc = some (.astore_n i, 1, 0)) (h1 : (i : Nat) < L.length) (h2 : jnl L (i : Nat) = true) (k : jE l j (pc + 1) (L.set (i : Nat) (some (.ref x))) st G v G') : jE l j pc L (.ref x :: st) G v G' := by
  intro p e R s m args below meth c D dA base ro N0 S0 Q ls H locs cells slots hC hc hs hend hL hI
  exact lv_astore_n hC.1 hC.2.1 (jdec hi).1 rfl (jLs_has hL) (by rw [← hL.2.2.1]; exact h1) rfl (fun ls9 h9 => (k p e R s m args below meth c D dA base ro N0 S0 Q ls9 H locs cells slots hC hc hs hend (jLs_set (v := .ref x) hL h1 h2 h9) hI))
theorem je_iinc {i : Nat} {n x : Int} (hi : jIns j pc = some (.iinc i n, 3, 0)) (hl : L[i]? = some (some (.int (jI x)))) (h2 : jnl L i = true) (k : jE l j (pc + 3) (L.set i (some (.int (jI (x + n))))) st G v G') : jE l j pc L st G v G' := by
  intro p e R s m args below meth c D dA base ro N0 S0 Q ls H locs cells slots hC hc hs hend hL hI
  have h1 : i < L.length := (List.getElem?_eq_some_iff.mp hl).1
  obtain ⟨q, hq⟩ := List.getElem?_of_mem (jlv_mem (ad := jad base ro) hl)
  exact lv_iinc (v := jI (x + n)) hC.1 hC.2.1 (jdec hi).1 (jLs_has hL) hq (jI_add x n) (by rw [← hL.2.2.1]; exact h1) rfl (fun ls9 h9 => (k p e R s m args below meth c D dA base ro N0 S0 Q ls9 H locs cells slots hC hc hs hend (jLs_set (v := .int (jI (x + n))) hL h1 h2 h9) hI))
theorem je_iadd {x y : Int} (hi : jIns j pc = some (.iadd, 1, 0)) (k : jE l j (pc + 1) L (.int (jI (x + y)) :: st) G v G') : jE l j pc L (.int (jI y) :: .int (jI x) :: st) G v G' := by
  intro p e R s m args below meth c D dA base ro N0 S0 Q ls H locs cells slots hC hc hs hend hL hI
  have hd := (jdec hi).1
  refine lv_iadd hC.1 hC.2.1 hd  ?_
  rw [show (jI x + jI y) = jI (x + y) from jI_add x y]
  exact k p e R s m args below meth c D dA base ro N0 S0 Q ls H locs cells slots hC hc hs hend hL hI
theorem je_isub {x y : Int} (hi : jIns j pc = some (.isub, 1, 0)) (k : jE l j (pc + 1) L (.int (jI (x - y)) :: st) G v G') : jE l j pc L (.int (jI y) :: .int (jI x) :: st) G v G' := by
  intro p e R s m args below meth c D dA base ro N0 S0 Q ls H locs cells slots hC hc hs hend hL hI
  have hd := (jdec hi).1
  refine lv_isub hC.1 hC.2.1 hd  ?_
  rw [show (jI x - jI y) = jI (x - y) from jI_sub x y]
  exact k p e R s m args below meth c D dA base ro N0 S0 Q ls H locs cells slots hC hc hs hend hL hI
theorem je_imul {x y : Int} (hi : jIns j pc = some (.imul, 1, 0)) (k : jE l j (pc + 1) L (.int (jI (x * y)) :: st) G v G') : jE l j pc L (.int (jI y) :: .int (jI x) :: st) G v G' := by
  intro p e R s m args below meth c D dA base ro N0 S0 Q ls H locs cells slots hC hc hs hend hL hI
  have hd := (jdec hi).1
  refine lv_imul hC.1 hC.2.1 hd  ?_
  rw [show (jI x * jI y) = jI (x * y) from jI_mul x y]
  exact k p e R s m args below meth c D dA base ro N0 S0 Q ls H locs cells slots hC hc hs hend hL hI
theorem je_ineg {x : Int} (hi : jIns j pc = some (.ineg, 1, 0)) (k : jE l j (pc + 1) L (.int (jI (-x)) :: st) G v G') : jE l j pc L (.int (jI x) :: st) G v G' := by
  intro p e R s m args below meth c D dA base ro N0 S0 Q ls H locs cells slots hC hc hs hend hL hI
  have hd := (jdec hi).1
  refine lv_ineg hC.1 hC.2.1 hd  ?_
  rw [show -(jI x) = jI (-x) from jI_neg x]
  exact k p e R s m args below meth c D dA base ro N0 S0 Q ls H locs cells slots hC hc hs hend hL hI
theorem je_ladd {x y : Int} (hi : jIns j pc = some (.ladd, 1, 0)) (k : jE l j (pc + 1) L (.long (jl (x + y)) :: st) G v G') : jE l j pc L (.long (jl y) :: .long (jl x) :: st) G v G' := by
  intro p e R s m args below meth c D dA base ro N0 S0 Q ls H locs cells slots hC hc hs hend hL hI
  have hd := (jdec hi).1
  refine lv_ladd hC.1 hC.2.1 hd  ?_
  rw [show (jl x + jl y) = jl (x + y) from jl_add x y]
  exact k p e R s m args below meth c D dA base ro N0 S0 Q ls H locs cells slots hC hc hs hend hL hI
theorem je_lsub {x y : Int} (hi : jIns j pc = some (.lsub, 1, 0)) (k : jE l j (pc + 1) L (.long (jl (x - y)) :: st) G v G') : jE l j pc L (.long (jl y) :: .long (jl x) :: st) G v G' := by
  intro p e R s m args below meth c D dA base ro N0 S0 Q ls H locs cells slots hC hc hs hend hL hI
  have hd := (jdec hi).1
  refine lv_lsub hC.1 hC.2.1 hd  ?_
  rw [show (jl x - jl y) = jl (x - y) from jl_sub x y]
  exact k p e R s m args below meth c D dA base ro N0 S0 Q ls H locs cells slots hC hc hs hend hL hI
theorem je_lmul {x y : Int} (hi : jIns j pc = some (.lmul, 1, 0)) (k : jE l j (pc + 1) L (.long (jl (x * y)) :: st) G v G') : jE l j pc L (.long (jl y) :: .long (jl x) :: st) G v G' := by
  intro p e R s m args below meth c D dA base ro N0 S0 Q ls H locs cells slots hC hc hs hend hL hI
  have hd := (jdec hi).1
  refine lv_lmul hC.1 hC.2.1 hd  ?_
  rw [show (jl x * jl y) = jl (x * y) from jl_mul x y]
  exact k p e R s m args below meth c D dA base ro N0 S0 Q ls H locs cells slots hC hc hs hend hL hI
theorem je_idiv {x y : Int} (hi : jIns j pc = some (.idiv, 1, 0)) (h1 : 0 ≤ x) (h2 : x < 2147483648) (h3 : 0 < y) (h4 : y < 2147483648) (k : jE l j (pc + 1) L (.int (jI (x / y)) :: st) G v G') : jE l j pc L (.int (jI y) :: .int (jI x) :: st) G v G' := by
  intro p e R s m args below meth c D dA base ro N0 S0 Q ls H locs cells slots hC hc hs hend hL hI
  have hd := (jdec hi).1
  have hne : ¬ jI y = 0 := fun z => by have := (jI_eq ⟨by omega, h4⟩ jr_0).mp z; omega
  refine lv_idiv hC.1 hC.2.1 hd hne ?_
  rw [jI_div h1 h2 h3 h4]
  exact k p e R s m args below meth c D dA base ro N0 S0 Q ls H locs cells slots hC hc hs hend hL hI
theorem je_irem {x y : Int} (hi : jIns j pc = some (.irem, 1, 0)) (h1 : 0 ≤ x) (h2 : x < 2147483648) (h3 : 0 < y) (h4 : y < 2147483648) (k : jE l j (pc + 1) L (.int (jI (x % y)) :: st) G v G') : jE l j pc L (.int (jI y) :: .int (jI x) :: st) G v G' := by
  intro p e R s m args below meth c D dA base ro N0 S0 Q ls H locs cells slots hC hc hs hend hL hI
  have hd := (jdec hi).1
  have hne : ¬ jI y = 0 := fun z => by have := (jI_eq ⟨by omega, h4⟩ jr_0).mp z; omega
  refine lv_irem hC.1 hC.2.1 hd hne ?_
  rw [jI_rem h1 h2 h3 h4]
  exact k p e R s m args below meth c D dA base ro N0 S0 Q ls H locs cells slots hC hc hs hend hL hI
theorem je_iremT {x y : Int} (hi : jIns j pc = some (.irem, 1, 0)) (h1 : jr x) (h3 : 0 < y) (h4 : y < 2147483648) (k : jE l j (pc + 1) L (.int (jI (x.tmod y)) :: st) G v G') : jE l j pc L (.int (jI y) :: .int (jI x) :: st) G v G' := by
  intro p e R s m args below meth c D dA base ro N0 S0 Q ls H locs cells slots hC hc hs hend hL hI
  have hd := (jdec hi).1
  have hne : ¬ jI y = 0 := fun z => by have := (jI_eq ⟨by omega, h4⟩ jr_0).mp z; omega
  refine lv_irem hC.1 hC.2.1 hd hne ?_
  rw [jI_remT h1 h3 h4]
  exact k p e R s m args below meth c D dA base ro N0 S0 Q ls H locs cells slots hC hc hs hend hL hI
theorem je_iand {x y z : Int32} (hi : jIns j pc = some (.iand, 1, 0)) (hz : x &&& y = z) (k : jE l j (pc + 1) L (.int z :: st) G v G') : jE l j pc L (.int y :: .int x :: st) G v G' := by
  intro p e R s m args below meth c D dA base ro N0 S0 Q ls H locs cells slots hC hc hs hend hL hI
  have hd := (jdec hi).1
  refine lv_iand hC.1 hC.2.1 hd  ?_
  rw [hz]
  exact k p e R s m args below meth c D dA base ro N0 S0 Q ls H locs cells slots hC hc hs hend hL hI
theorem je_ixor {x y z : Int32} (hi : jIns j pc = some (.ixor, 1, 0)) (hz : x ^^^ y = z) (k : jE l j (pc + 1) L (.int z :: st) G v G') : jE l j pc L (.int y :: .int x :: st) G v G' := by
  intro p e R s m args below meth c D dA base ro N0 S0 Q ls H locs cells slots hC hc hs hend hL hI
  have hd := (jdec hi).1
  refine lv_ixor hC.1 hC.2.1 hd  ?_
  rw [hz]
  exact k p e R s m args below meth c D dA base ro N0 S0 Q ls H locs cells slots hC hc hs hend hL hI
theorem je_ishr {x y z : Int32} (hi : jIns j pc = some (.ishr, 1, 0)) (hz : x >>> (y &&& 31) = z) (k : jE l j (pc + 1) L (.int z :: st) G v G') : jE l j pc L (.int y :: .int x :: st) G v G' := by
  intro p e R s m args below meth c D dA base ro N0 S0 Q ls H locs cells slots hC hc hs hend hL hI
  have hd := (jdec hi).1
  refine lv_ishr hC.1 hC.2.1 hd  ?_
  rw [hz]
  exact k p e R s m args below meth c D dA base ro N0 S0 Q ls H locs cells slots hC hc hs hend hL hI
theorem je_i2l {x : Int} (hi : jIns j pc = some (.i2l, 1, 0)) (h1 : jr x) (k : jE l j (pc + 1) L (.long (jl x) :: st) G v G') : jE l j pc L (.int (jI x) :: st) G v G' := by
  intro p e R s m args below meth c D dA base ro N0 S0 Q ls H locs cells slots hC hc hs hend hL hI
  have hd := (jdec hi).1
  exact lv_i2l hC.1 hC.2.1 hd (jI_l h1) (k p e R s m args below meth c D dA base ro N0 S0 Q ls H locs cells slots hC hc hs hend hL hI)
theorem je_l2i {x : Int} (hi : jIns j pc = some (.l2i, 1, 0)) (h1 : jr x) (k : jE l j (pc + 1) L (.int (jI x) :: st) G v G') : jE l j pc L (.long (jl x) :: st) G v G' := by
  intro p e R s m args below meth c D dA base ro N0 S0 Q ls H locs cells slots hC hc hs hend hL hI
  have hd := (jdec hi).1
  exact lv_l2i hC.1 hC.2.1 hd (jl_i h1) (k p e R s m args below meth c D dA base ro N0 S0 Q ls H locs cells slots hC hc hs hend hL hI)
theorem je_dup {a : Value} (hi : jIns j pc = some (.dup, 1, 0)) (ha : a.category = 1) (k : jE l j (pc + 1) L (a :: a :: st) G v G') : jE l j pc L (a :: st) G v G' := by
  intro p e R s m args below meth c D dA base ro N0 S0 Q ls H locs cells slots hC hc hs hend hL hI
  have hd := (jdec hi).1
  exact lv_dup hC.1 hC.2.1 hd (by rw [jv_cat]; exact ha) (k p e R s m args below meth c D dA base ro N0 S0 Q ls H locs cells slots hC hc hs hend hL hI)
theorem je_pop {a : Value} (hi : jIns j pc = some (.pop, 1, 0)) (ha : a.category = 1) (k : jE l j (pc + 1) L (st) G v G') : jE l j pc L (a :: st) G v G' := by
  intro p e R s m args below meth c D dA base ro N0 S0 Q ls H locs cells slots hC hc hs hend hL hI
  have hd := (jdec hi).1
  exact lv_pop hC.1 hC.2.1 hd (by rw [jv_cat]; exact ha) (k p e R s m args below meth c D dA base ro N0 S0 Q ls H locs cells slots hC hc hs hend hL hI)
theorem je_dup2 {a b : Value} (hi : jIns j pc = some (.dup2, 1, 0)) (ha : a.category = 1) (hb : b.category = 1) (k : jE l j (pc + 1) L (a :: b :: a :: b :: st) G v G') : jE l j pc L (a :: b :: st) G v G' := by
  intro p e R s m args below meth c D dA base ro N0 S0 Q ls H locs cells slots hC hc hs hend hL hI
  have hd := (jdec hi).1
  exact lv_dup2_11 hC.1 hC.2.1 hd (by rw [jv_cat]; exact ha) (by rw [jv_cat]; exact hb) (k p e R s m args below meth c D dA base ro N0 S0 Q ls H locs cells slots hC hc hs hend hL hI)
theorem je_lcmp {x y : Int} (hi : jIns j pc = some (.lcmp, 1, 0)) (h1 : jrl x) (h2 : jrl y) (k : jE l j (pc + 1) L (.int (jI (if y < x then 1 else if x = y then 0 else -1)) :: st) G v G') : jE l j pc L (.long (jl y) :: .long (jl x) :: st) G v G' := by
  intro p e R s m args below meth c D dA base ro N0 S0 Q ls H locs cells slots hC hc hs hend hL hI
  refine W.lcmp hC.1 hC.2.1 (jdec hi).1 ?_
  have ee : lg_cmp (jl x) (jl y) = jI (if y < x then 1 else if x = y then 0 else -1) := by
    unfold lg_cmp
    by_cases q : y < x
    · rw [if_pos ((jl_lt h2 h1).mpr q), if_pos q]; rfl
    · rw [if_neg (fun z => q ((jl_lt h2 h1).mp z)), if_neg q]
      by_cases q2 : x = y
      · rw [if_pos ((jl_eq h1 h2).mpr q2), if_pos q2]; rfl
      · rw [if_neg (fun z => q2 ((jl_eq h1 h2).mp z)), if_neg q2]; rfl
  rw [ee]
  exact k p e R s m args below meth c D dA base ro N0 S0 Q ls H locs cells slots hC hc hs hend hL hI
theorem je_if_eq {x off : Int} {tgt : Nat} (hi : jIns j pc = some (.ifCond .eq off, 3, 0)) (ht : (pc : Int) + off = (tgt : Int)) (hx : jr x) (kt : x = 0 → jE l j tgt L st G v G') (kf : ¬ (x = 0) → jE l j (pc + 3) L st G v G') : jE l j pc L (.int (jI x) :: st) G v G' := by
  intro p e R s m args below meth c D dA base ro N0 S0 Q ls H locs cells slots hC hc hs hend hL hI
  exact lv_if_eq hC.1 hC.2.1 (jdec hi).1 ht (fun z => ((kt ((jI_eq hx jr_0).mp z)) p e R s m args below meth c D dA base ro N0 S0 Q ls H locs cells slots hC hc hs hend hL hI)) (fun z => ((kf (fun q => z ((jI_eq hx jr_0).mpr q))) p e R s m args below meth c D dA base ro N0 S0 Q ls H locs cells slots hC hc hs hend hL hI))
theorem je_icmp_eq {x y off : Int} {tgt : Nat} (hi : jIns j pc = some (.if_icmp .eq off, 3, 0)) (ht : (pc : Int) + off = (tgt : Int)) (hx : jr x) (hy : jr y) (kt : x = y → jE l j tgt L st G v G') (kf : ¬ (x = y) → jE l j (pc + 3) L st G v G') : jE l j pc L (.int (jI y) :: .int (jI x) :: st) G v G' := by
  intro p e R s m args below meth c D dA base ro N0 S0 Q ls H locs cells slots hC hc hs hend hL hI
  exact lv_icmp_eq hC.1 hC.2.1 (jdec hi).1 ht (fun z => ((kt ((jI_eq hx hy).mp z)) p e R s m args below meth c D dA base ro N0 S0 Q ls H locs cells slots hC hc hs hend hL hI)) (fun z => ((kf (fun q => z ((jI_eq hx hy).mpr q))) p e R s m args below meth c D dA base ro N0 S0 Q ls H locs cells slots hC hc hs hend hL hI))
theorem je_if_ne {x off : Int} {tgt : Nat} (hi : jIns j pc = some (.ifCond .ne off, 3, 0)) (ht : (pc : Int) + off = (tgt : Int)) (hx : jr x) (kt : x ≠ 0 → jE l j tgt L st G v G') (kf : ¬ (x ≠ 0) → jE l j (pc + 3) L st G v G') : jE l j pc L (.int (jI x) :: st) G v G' := by
  intro p e R s m args below meth c D dA base ro N0 S0 Q ls H locs cells slots hC hc hs hend hL hI
  exact lv_if_ne hC.1 hC.2.1 (jdec hi).1 ht (fun z => ((kt (fun q => z ((jI_eq hx jr_0).mpr q))) p e R s m args below meth c D dA base ro N0 S0 Q ls H locs cells slots hC hc hs hend hL hI)) (fun z => ((kf (fun q => q ((jI_eq hx jr_0).mp z))) p e R s m args below meth c D dA base ro N0 S0 Q ls H locs cells slots hC hc hs hend hL hI))
theorem je_icmp_ne {x y off : Int} {tgt : Nat} (hi : jIns j pc = some (.if_icmp .ne off, 3, 0)) (ht : (pc : Int) + off = (tgt : Int)) (hx : jr x) (hy : jr y) (kt : x ≠ y → jE l j tgt L st G v G') (kf : ¬ (x ≠ y) → jE l j (pc + 3) L st G v G') : jE l j pc L (.int (jI y) :: .int (jI x) :: st) G v G' := by
  intro p e R s m args below meth c D dA base ro N0 S0 Q ls H locs cells slots hC hc hs hend hL hI
  exact lv_icmp_ne hC.1 hC.2.1 (jdec hi).1 ht (fun z => ((kt (fun q => z ((jI_eq hx hy).mpr q))) p e R s m args below meth c D dA base ro N0 S0 Q ls H locs cells slots hC hc hs hend hL hI)) (fun z => ((kf (fun q => q ((jI_eq hx hy).mp z))) p e R s m args below meth c D dA base ro N0 S0 Q ls H locs cells slots hC hc hs hend hL hI))
theorem je_if_lt {x off : Int} {tgt : Nat} (hi : jIns j pc = some (.ifCond .lt off, 3, 0)) (ht : (pc : Int) + off = (tgt : Int)) (hx : jr x) (kt : x < 0 → jE l j tgt L st G v G') (kf : ¬ (x < 0) → jE l j (pc + 3) L st G v G') : jE l j pc L (.int (jI x) :: st) G v G' := by
  intro p e R s m args below meth c D dA base ro N0 S0 Q ls H locs cells slots hC hc hs hend hL hI
  exact lv_if_lt hC.1 hC.2.1 (jdec hi).1 ht (fun z => ((kt ((jI_lt hx jr_0).mp z)) p e R s m args below meth c D dA base ro N0 S0 Q ls H locs cells slots hC hc hs hend hL hI)) (fun z => ((kf (fun q => z ((jI_lt hx jr_0).mpr q))) p e R s m args below meth c D dA base ro N0 S0 Q ls H locs cells slots hC hc hs hend hL hI))
theorem je_icmp_lt {x y off : Int} {tgt : Nat} (hi : jIns j pc = some (.if_icmp .lt off, 3, 0)) (ht : (pc : Int) + off = (tgt : Int)) (hx : jr x) (hy : jr y) (kt : x < y → jE l j tgt L st G v G') (kf : ¬ (x < y) → jE l j (pc + 3) L st G v G') : jE l j pc L (.int (jI y) :: .int (jI x) :: st) G v G' := by
  intro p e R s m args below meth c D dA base ro N0 S0 Q ls H locs cells slots hC hc hs hend hL hI
  exact lv_icmp_lt hC.1 hC.2.1 (jdec hi).1 ht (fun z => ((kt ((jI_lt hx hy).mp z)) p e R s m args below meth c D dA base ro N0 S0 Q ls H locs cells slots hC hc hs hend hL hI)) (fun z => ((kf (fun q => z ((jI_lt hx hy).mpr q))) p e R s m args below meth c D dA base ro N0 S0 Q ls H locs cells slots hC hc hs hend hL hI))
theorem je_if_ge {x off : Int} {tgt : Nat} (hi : jIns j pc = some (.ifCond .ge off, 3, 0)) (ht : (pc : Int) + off = (tgt : Int)) (hx : jr x) (kt : 0 ≤ x → jE l j tgt L st G v G') (kf : ¬ (0 ≤ x) → jE l j (pc + 3) L st G v G') : jE l j pc L (.int (jI x) :: st) G v G' := by
  intro p e R s m args below meth c D dA base ro N0 S0 Q ls H locs cells slots hC hc hs hend hL hI
  exact lv_if_ge hC.1 hC.2.1 (jdec hi).1 ht (fun z => ((kt ((jI_le jr_0 hx).mp z)) p e R s m args below meth c D dA base ro N0 S0 Q ls H locs cells slots hC hc hs hend hL hI)) (fun z => ((kf (fun q => z ((jI_le jr_0 hx).mpr q))) p e R s m args below meth c D dA base ro N0 S0 Q ls H locs cells slots hC hc hs hend hL hI))
theorem je_icmp_ge {x y off : Int} {tgt : Nat} (hi : jIns j pc = some (.if_icmp .ge off, 3, 0)) (ht : (pc : Int) + off = (tgt : Int)) (hx : jr x) (hy : jr y) (kt : y ≤ x → jE l j tgt L st G v G') (kf : ¬ (y ≤ x) → jE l j (pc + 3) L st G v G') : jE l j pc L (.int (jI y) :: .int (jI x) :: st) G v G' := by
  intro p e R s m args below meth c D dA base ro N0 S0 Q ls H locs cells slots hC hc hs hend hL hI
  exact lv_icmp_ge hC.1 hC.2.1 (jdec hi).1 ht (fun z => ((kt ((jI_le hy hx).mp z)) p e R s m args below meth c D dA base ro N0 S0 Q ls H locs cells slots hC hc hs hend hL hI)) (fun z => ((kf (fun q => z ((jI_le hy hx).mpr q))) p e R s m args below meth c D dA base ro N0 S0 Q ls H locs cells slots hC hc hs hend hL hI))
theorem je_if_gt {x off : Int} {tgt : Nat} (hi : jIns j pc = some (.ifCond .gt off, 3, 0)) (ht : (pc : Int) + off = (tgt : Int)) (hx : jr x) (kt : 0 < x → jE l j tgt L st G v G') (kf : ¬ (0 < x) → jE l j (pc + 3) L st G v G') : jE l j pc L (.int (jI x) :: st) G v G' := by
  intro p e R s m args below meth c D dA base ro N0 S0 Q ls H locs cells slots hC hc hs hend hL hI
  exact lv_if_gt hC.1 hC.2.1 (jdec hi).1 ht (fun z => ((kt ((jI_lt jr_0 hx).mp z)) p e R s m args below meth c D dA base ro N0 S0 Q ls H locs cells slots hC hc hs hend hL hI)) (fun z => ((kf (fun q => z ((jI_lt jr_0 hx).mpr q))) p e R s m args below meth c D dA base ro N0 S0 Q ls H locs cells slots hC hc hs hend hL hI))
theorem je_icmp_gt {x y off : Int} {tgt : Nat} (hi : jIns j pc = some (.if_icmp .gt off, 3, 0)) (ht : (pc : Int) + off = (tgt : Int)) (hx : jr x) (hy : jr y) (kt : y < x → jE l j tgt L st G v G') (kf : ¬ (y < x) → jE l j (pc + 3) L st G v G') : jE l j pc L (.int (jI y) :: .int (jI x) :: st) G v G' := by
  intro p e R s m args below meth c D dA base ro N0 S0 Q ls H locs cells slots hC hc hs hend hL hI
  exact lv_icmp_gt hC.1 hC.2.1 (jdec hi).1 ht (fun z => ((kt ((jI_lt hy hx).mp z)) p e R s m args below meth c D dA base ro N0 S0 Q ls H locs cells slots hC hc hs hend hL hI)) (fun z => ((kf (fun q => z ((jI_lt hy hx).mpr q))) p e R s m args below meth c D dA base ro N0 S0 Q ls H locs cells slots hC hc hs hend hL hI))
theorem je_if_le {x off : Int} {tgt : Nat} (hi : jIns j pc = some (.ifCond .le off, 3, 0)) (ht : (pc : Int) + off = (tgt : Int)) (hx : jr x) (kt : x ≤ 0 → jE l j tgt L st G v G') (kf : ¬ (x ≤ 0) → jE l j (pc + 3) L st G v G') : jE l j pc L (.int (jI x) :: st) G v G' := by
  intro p e R s m args below meth c D dA base ro N0 S0 Q ls H locs cells slots hC hc hs hend hL hI
  exact lv_if_le hC.1 hC.2.1 (jdec hi).1 ht (fun z => ((kt ((jI_le hx jr_0).mp z)) p e R s m args below meth c D dA base ro N0 S0 Q ls H locs cells slots hC hc hs hend hL hI)) (fun z => ((kf (fun q => z ((jI_le hx jr_0).mpr q))) p e R s m args below meth c D dA base ro N0 S0 Q ls H locs cells slots hC hc hs hend hL hI))
theorem je_icmp_le {x y off : Int} {tgt : Nat} (hi : jIns j pc = some (.if_icmp .le off, 3, 0)) (ht : (pc : Int) + off = (tgt : Int)) (hx : jr x) (hy : jr y) (kt : x ≤ y → jE l j tgt L st G v G') (kf : ¬ (x ≤ y) → jE l j (pc + 3) L st G v G') : jE l j pc L (.int (jI y) :: .int (jI x) :: st) G v G' := by
  intro p e R s m args below meth c D dA base ro N0 S0 Q ls H locs cells slots hC hc hs hend hL hI
  exact lv_icmp_le hC.1 hC.2.1 (jdec hi).1 ht (fun z => ((kt ((jI_le hx hy).mp z)) p e R s m args below meth c D dA base ro N0 S0 Q ls H locs cells slots hC hc hs hend hL hI)) (fun z => ((kf (fun q => z ((jI_le hx hy).mpr q))) p e R s m args below meth c D dA base ro N0 S0 Q ls H locs cells slots hC hc hs hend hL hI))
theorem je_goto {off : Int} {tgt : Nat} (hi : jIns j pc = some (.goto off, 3, 0)) (ht : (pc : Int) + off = (tgt : Int)) (k : jE l j tgt L st G v G') : jE l j pc L st G v G' := by
  intro p e R s m args below meth c D dA base ro N0 S0 Q ls H locs cells slots hC hc hs hend hL hI
  exact lv_goto hC.1 hC.2.1 (jdec hi).1 ht (k p e R s m args below meth c D dA base ro N0 S0 Q ls H locs cells slots hC hc hs hend hL hI)
theorem je_tabO {d lo hi9 x : Int} {offs : Array Int} {n tgt : Nat} (hi : jIns j pc = some (.tableswitch d lo hi9 offs, n, 0)) (hx : jr x) (h : x < lo ∨ hi9 < x) (ht : (pc : Int) + d = (tgt : Int)) (k : jE l j tgt L st G v G') : jE l j pc L (.int (jI x) :: st) G v G' := by
  intro p e R s m args below meth c D dA base ro N0 S0 Q ls H locs cells slots hC hc hs hend hL hI
  exact lv_tableOut hC.1 hC.2.1 (jdec hi).1 (by rw [jI_toInt hx]; exact h) ht (k p e R s m args below meth c D dA base ro N0 S0 Q ls H locs cells slots hC hc hs hend hL hI)
theorem je_tabI {d lo hi9 x off : Int} {offs : Array Int} {n tgt : Nat} (hi : jIns j pc = some (.tableswitch d lo hi9 offs, n, 0)) (hx : jr x) (h1 : ¬ x < lo) (h2 : ¬ hi9 < x) (ho : offs[(x - lo).toNat]? = some off) (ht : (pc : Int) + off = (tgt : Int)) (k : jE l j tgt L st G v G') : jE l j pc L (.int (jI x) :: st) G v G' := by
  intro p e R s m args below meth c D dA base ro N0 S0 Q ls H locs cells slots hC hc hs hend hL hI
  exact lv_tableIn hC.1 hC.2.1 (jdec hi).1 (by rw [jI_toInt hx]; exact h1) (by rw [jI_toInt hx]; exact h2) (by rw [jI_toInt hx]; exact ho) ht (k p e R s m args below meth c D dA base ro N0 S0 Q ls H locs cells slots hC hc hs hend hL hI)
theorem je_iret {x : Int32} (hi : jIns j pc = some (.ireturn, 1, 0)) : jE l j pc L [.int x] G (some (.int x)) G := by
  intro p e R s m args below meth c D dA base ro N0 S0 Q ls H locs cells slots hC hc hs hend hL hI
  exact hend pc ls [.int x] H locs cells slots ⟨hi, rfl⟩ hI
theorem je_ret (hi : jIns j pc = some (.return_, 1, 0)) : jE l j pc L [] G none G := by
  intro p e R s m args below meth c D dA base ro N0 S0 Q ls H locs cells slots hC hc hs hend hL hI
  exact hend pc ls [] H locs cells slots ⟨hi, rfl⟩ hI
theorem je_aret {a : Nat} (hi : jIns j pc = some (.areturn, 1, 0)) : jE l j pc L [.ref a] G (some (.ref a)) G := by
  intro p e R s m args below meth c D dA base ro N0 S0 Q ls H locs cells slots hC hc hs hend hL hI
  exact hend pc ls [.ref a] H locs cells slots ⟨hi, rfl, a, rfl⟩ hI
end JR
