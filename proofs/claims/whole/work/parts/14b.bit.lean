/-! masks and shifts as whole numbers -/
theorem nI_jI (n : Nat) : nI n = jI (n : Int) := Int32.ofInt_eq_ofNat.symm
theorem jI_bits (x : Int) : (jI x).toBitVec.toNat = (x % 4294967296).toNat := by
  show (BitVec.ofInt 32 x).toNat = _
  rw [BitVec.toNat_ofInt]
  rfl
theorem jI_and255 (x : Int) : jI x &&& jI 255 = jI (x % 256) := by
  rw [pk_and (jI x) 8 (by decide), nI_jI, jI_bits]
  congr 1
  omega
theorem jI_and63 (x : Int) : jI x &&& jI 63 = jI (x % 64) := by
  rw [pk_and (jI x) 6 (by decide), nI_jI, jI_bits]
  congr 1
  omega
theorem jI_shr0 {x : Int} (hx : jr x) : jI x >>> (jI 0 &&& 31) = jI (x / 1) := by
  apply Int32.toInt_inj.mp
  have h1 := hx.1
  have h2 := hx.2
  rw [pk_shr _ _ 0 (by decide), jI_toInt hx, Int.shiftRight_eq_div_pow, jI_toInt ⟨by omega, by omega⟩]
  rfl
theorem jI_shr8 {x : Int} (hx : jr x) : jI x >>> (jI 8 &&& 31) = jI (x / 256) := by
  apply Int32.toInt_inj.mp
  have h1 := hx.1
  have h2 := hx.2
  rw [pk_shr _ _ 8 (by decide), jI_toInt hx, Int.shiftRight_eq_div_pow, jI_toInt ⟨by omega, by omega⟩]
  rfl
theorem jI_shr16 {x : Int} (hx : jr x) : jI x >>> (jI 16 &&& 31) = jI (x / 65536) := by
  apply Int32.toInt_inj.mp
  have h1 := hx.1
  have h2 := hx.2
  rw [pk_shr _ _ 16 (by decide), jI_toInt hx, Int.shiftRight_eq_div_pow, jI_toInt ⟨by omega, by omega⟩]
  rfl
theorem jI_shr24 {x : Int} (hx : jr x) : jI x >>> (jI 24 &&& 31) = jI (x / 16777216) := by
  apply Int32.toInt_inj.mp
  have h1 := hx.1
  have h2 := hx.2
  rw [pk_shr _ _ 24 (by decide), jI_toInt hx, Int.shiftRight_eq_div_pow, jI_toInt ⟨by omega, by omega⟩]
  rfl
