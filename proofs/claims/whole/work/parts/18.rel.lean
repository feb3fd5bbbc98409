/-! how the class's cells stand to the reference's: IC h s: the class's cells in h tell what the reference's cells in s tell -/
def byt (z : Int) : Prop := 0 ≤ z ∧ z ≤ 255
/-- a file -/
def RSf (h : jH) (r : Nat) (R : Nat → Int) (o : Nat) : Prop := h r 1 = R o ∧ 0 ≤ R o ∧ R o ≤ 64 ∧ ∀ i : Nat, (i : Int) < R o → h (r + 1) i = R (o + 1 + i) ∧ byt (R (o + 1 + i))
/-- a slot -/
def RSs (h : jH) (r : Nat) (R : Nat → Int) (o : Nat) : Prop := h r 1 = (if R o = -1 then 0 else R o) ∧ (R o = -1 ∨ (1 ≤ R o ∧ R o ≤ 300)) ∧ ∀ i : Nat, (i : Int) < R o → h (r + 1) i = R (o + 1 + i) ∧ byt (R (o + 1 + i))
/-- the run -/
def RSr (h : jH) (b : Nat) (R : Nat → Int) : Prop := (R 1167 = 0 ∨ R 1167 = 1) ∧ jr (h b 8) ∧ jr (h b 9) ∧ (R 1167 = 0 → h b 8 ≤ h b 9) ∧ (R 1167 = 1 → 0 ≤ R 1169 ∧ R 1169 < R 1168 ∧ R 1168 ≤ 64 ∧ h b 8 = R 1168 ∧ h b 9 = R 1169 ∧ R 1168 ≤ R 5 ∧ ∀ i : Nat, (i : Int) < R 1168 → h (b + 15) i = R (1170 + 3 * i) ∧ h (b + 16) i = R (1171 + 3 * i) ∧ h (b + 17) i % 256 = R (1172 + 3 * i) ∧ 0 ≤ h (b + 17) i ∧ h (b + 17) i ≤ 510 ∧ 0 ≤ R (1170 + 3 * i) ∧ R (1170 + 3 * i) < R 5 ∧ -1 ≤ R (1171 + 3 * i) ∧ R (1171 + 3 * i) < R 5)
/-- a State at b, and what undo() brings back of the reference -/
def RS (h : jH) (b : Nat) (R : Nat → Int) : Prop := (∀ f, f < 3 → RSf h (b + 1 + 2 * f) R (5 + 65 * f)) ∧ (∀ k, k < 3 → RSs h (b + 8 + 2 * k) R (200 + 301 * k)) ∧ (∀ i, i < 64 → h (b + 14) i = R (1103 + i) ∧ (R (1103 + i) = 0 ∨ R (1103 + i) = 1)) ∧ RSr h b R
def jlow (k : Nat) : Int := [2, 0, 1, 0, 1].getD k 0
def jhigh (k : Nat) : Int := [9, 9, 9, 9, 6].getD k 0
/-- the acts kept for undo -/
def RU (h s : jH) : Prop := h 0 4 = s 388 6 ∧ 0 ≤ s 388 6 ∧ s 388 6 ≤ 16 ∧ 0 ≤ h 0 3 ∧ h 0 3 < 16 ∧ ∀ k : Nat, (k : Int) < s 388 6 → RS h (20 + 18 * (((h 0 3).toNat + k) % 16)) (fun i => s 391 (1357 * k + i - 5)) ∧ h 308 (((h 0 3).toNat + k) % 16) = s 392 k ∧ 0 ≤ s 392 k ∧ s 392 k ≤ 18
/-- the tape -/
def RT (h s : jH) : Prop := h 309 1 = s 388 8 ∧ 0 ≤ s 388 8 ∧ s 388 8 ≤ 400 ∧ ∀ i : Nat, (i : Int) < s 388 8 → h 310 i = s 393 i ∧ byt (s 393 i)
/-- what is told by a number alone -/
def RN (h s : jH) (t : Int) : Prop := (∀ k, k < 5 → h 311 k = s 390 k ∧ jlow k ≤ s 390 k ∧ s 390 k ≤ jhigh k) ∧ (∀ k, k < 6 → h 312 k = s 389 (k + 1) ∧ 0 ≤ h 312 k ∧ h 312 k ≤ t) ∧ h 0 8 = s 388 1 ∧ jr (h 0 8) ∧ h 0 9 = s 388 45 ∧ 0 ≤ h 0 9 ∧ h 0 9 ≤ 7 ∧ h 356 4 = s 388 48 ∧ jr (h 356 4) ∧ h 356 5 = s 388 49 ∧ jr (h 356 5) ∧ h 362 0 = s 388 59 ∧ jr (h 362 0) ∧ h 362 1 = s 388 74 ∧ jr (h 362 1)
/-- all of it, after t calls at most -/
def IC (h s : jH) (t : Int) : Prop := RS h 1 (s 390) ∧ RU h s ∧ RT h s ∧ RN h s t
theorem RSf_S : ∀ f, f < 3 → RowS (2 + 2 * f) (3 + 2 * f) 64 := by
  intro f hf
  match f, hf with
  | 0, _ => exact ⟨rfl, rfl, rfl, rfl⟩
  | 1, _ => exact ⟨rfl, rfl, rfl, rfl⟩
  | 2, _ => exact ⟨rfl, rfl, rfl, rfl⟩
theorem RSs_S : ∀ k, k < 3 → RowS (9 + 2 * k) (10 + 2 * k) 300 := by
  intro f hf
  match f, hf with
  | 0, _ => exact ⟨rfl, rfl, rfl, rfl⟩
  | 1, _ => exact ⟨rfl, rfl, rfl, rfl⟩
  | 2, _ => exact ⟨rfl, rfl, rfl, rfl⟩
theorem RT_S : RowS 309 310 400 := ⟨rfl, rfl, rfl, rfl⟩
theorem sr8 : ∀ k, k < 3 → sr 8 k = 9 + 2 * k := by
  intro f hf
  match f, hf with
  | 0, _ => rfl
  | 1, _ => rfl
  | 2, _ => rfl
theorem hz_o {h : jH} {x : Nat} (hx : x ≠ 388) : hs h 388 0 0 x = h x := by funext q; exact hs_o hx
set_option maxRecDepth 20000 in
set_option maxHeartbeats 1000000 in
theorem c_fileAt_now (l : Launch) (h : jH) (f : Int) (f0 : 0 ≤ f) (f2 : f ≤ 2) : cR l 112 [.ref 1, .int (jI f)] h (fun a h' => h' = h ∧ a = 2 + 2 * f.toNat) := by
  refine cR.of rfl rfl ?_
  refine tl_iload_n rfl rfl ?_
  refine tl_if_ne (tgt := 11) rfl rfl ⟨by omega, by omega⟩ (fun c1 => ?_) (fun c1 => ?_)
  · skip
    refine tl_iload_n rfl rfl ?_
    refine tl_iconst rfl ?_
    refine tl_icmp_ne (tgt := 23) rfl rfl ⟨by omega, by omega⟩ ⟨by omega, by omega⟩ (fun c2 => ?_) (fun c2 => ?_)
    · skip
      refine tl_aload_n rfl rfl ?_
      show jT _ _ 24 _ _ _ _
      refine tl_getr (c := 9) (k9 := 2) (b := 6) rfl rfl rfl rfl ?_
      refine tl_aret rfl ?_
      -- leaf 0 at 27
      exact ⟨_, rfl, rfl, by omega⟩
    · show jT _ _ 16 _ _ _ _
      refine tl_aload_n rfl rfl ?_
      refine tl_getr (c := 9) (k9 := 1) (b := 4) rfl rfl rfl rfl ?_
      refine tl_goto (tgt := 27) rfl rfl ?_
      refine tl_aret rfl ?_
      -- leaf 1 at 27
      exact ⟨_, rfl, rfl, by omega⟩
  · show jT _ _ 4 _ _ _ _
    refine tl_aload_n rfl rfl ?_
    show jT _ _ 5 _ _ _ _
    refine tl_getr (c := 9) (k9 := 0) (b := 2) rfl rfl rfl rfl ?_
    refine tl_goto (tgt := 27) rfl rfl ?_
    refine tl_aret rfl ?_
    -- leaf 2 at 27
    exact ⟨_, rfl, rfl, by omega⟩
set_option maxRecDepth 20000 in
set_option maxHeartbeats 1000000 in
/-- size(file), of the class -/
theorem k_size (l : Launch) (h s : jH) (t f : Int) (hI : IC h s t) (hf : jr f) : cI l 133 [.ref 0, .int (jI f)] h (fun z h' => h' = h ∧ z = if 0 ≤ f ∧ f ≤ 2 then s 390 (5 + 65 * f).toNat else -1) := by
  have q1 := hf.1
  have q2 := hf.2
  refine cI.of rfl rfl ?_
  refine tl_iload_n rfl rfl ?_
  refine tl_if_lt (tgt := 9) rfl rfl ⟨by omega, by omega⟩ (fun c1 => ?_) (fun c1 => ?_)
  · skip
    refine tl_iconst rfl ?_
    refine tl_goto (tgt := 24) rfl rfl ?_
    refine tl_iret rfl ?_
    -- leaf 0 at 24
    exact ⟨_, rfl, rfl, by rw [if_neg (by omega)]⟩
  · show jT _ _ 4 _ _ _ _
    refine tl_iload_n rfl rfl ?_
    show jT _ _ 5 _ _ _ _
    refine tl_iconst rfl ?_
    refine tl_icmp_le (tgt := 13) rfl rfl ⟨by omega, by omega⟩ ⟨by omega, by omega⟩ (fun c2 => ?_) (fun c2 => ?_)
    · skip
      refine tl_aload_n rfl rfl ?_
      refine tl_getr (c := 11) (k9 := 0) (b := 1) rfl rfl rfl rfl ?_
      refine tl_iload_n rfl rfl ?_
      refine tl_v1r (c9 := 9) (c_fileAt_now l h f (by omega) (by omega)) rfl rfl rfl rfl rfl (Nat.le_of_ble_eq_true rfl) (fun a h1 q => ?_)
      obtain ⟨rfl, rfl⟩ := q
      have hS := RSf_S f.toNat (by omega)
      have hF := hI.1.1 f.toNat (by omega)
      refine tl_geti (c := 8) (k9 := 1) rfl hS.1 rfl ?_
      show jT _ _ 24 _ _ _ _
      refine tl_iret rfl ?_
      -- leaf 1 at 24
      refine ⟨_, rfl, rfl, ?_⟩
      rw [if_pos ⟨by omega, by omega⟩, show (2 + 2 * f.toNat) = 1 + 1 + 2 * f.toNat by omega, hF.1]
      congr 1
      omega
    · show jT _ _ 9 _ _ _ _
      refine tl_iconst rfl ?_
      refine tl_goto (tgt := 24) rfl rfl ?_
      refine tl_iret rfl ?_
      -- leaf 2 at 24
      exact ⟨_, rfl, rfl, by rw [if_neg (by omega)]⟩
set_option maxRecDepth 20000 in
set_option maxHeartbeats 1000000 in
/-- size(file), of the reference -/
theorem r_size (l : Launch) (h : jH) (f : Int) (hf : jr f) : cI l 212 [.ref 388, .int (jI f)] h (fun z h' => h' = hs h 388 0 0 ∧ z = if 0 ≤ f ∧ f ≤ 2 then h 390 (5 + 65 * f).toNat else -1) := by
  have q1 := hf.1
  have q2 := hf.2
  refine cI.of rfl rfl ?_
  refine tl_aload_n rfl rfl ?_
  refine tl_iconst rfl ?_
  refine tl_puti (c := 12) (k9 := 0) rfl rfl rfl rfl ?_
  refine tl_iload_n rfl rfl ?_
  refine tl_i2l rfl ⟨by omega, by omega⟩ ?_
  refine tl_lconst (z := 0) rfl rfl ?_
  show jT _ _ 8 _ _ _ _
  refine tl_ldc2 (z := 2) rfl (by decide +kernel) ?_
  refine tl_s3i (c_in l _ _ _ _ ⟨by omega, by omega⟩ ⟨by omega, by omega⟩ ⟨by omega, by omega⟩) rfl rfl rfl (Nat.le_of_ble_eq_true rfl) (fun z1 h1 q3 => ?_)
  obtain ⟨rfl, q3⟩ := q3
  have q4 : z1 = 0 ∨ z1 = 1 := by rw [q3]; split <;> omega
  refine tl_if_eq (tgt := 25) rfl rfl ⟨by omega, by omega⟩ (fun c1 => ?_) (fun c1 => ?_)
  · skip
    refine tl_iconst rfl ?_
    refine tl_iret rfl ?_
    -- leaf 0 at 26
    exact ⟨_, rfl, rfl, by rw [if_neg (by omega)]⟩
  · show jT _ _ 17 _ _ _ _
    refine tl_aload_n rfl rfl ?_
    refine tl_iload_n rfl rfl ?_
    show jT _ _ 19 _ _ _ _
    refine tl_v1i (c9 := 12) (c_sizeOf l _ f (by omega) (by omega)) rfl rfl rfl rfl rfl (Nat.le_of_ble_eq_true rfl) (fun z2 h2 q5 => ?_)
    obtain ⟨rfl, rfl⟩ := q5
    refine tl_goto (tgt := 26) rfl rfl ?_
    refine tl_iret rfl ?_
    -- leaf 1 at 26
    exact ⟨_, rfl, rfl, by rw [if_pos (by omega), hz_o (by decide)]⟩
