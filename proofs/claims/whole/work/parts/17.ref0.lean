/-! the reference: its smallest methods -/
set_option maxRecDepth 20000 in
set_option maxHeartbeats 1000000 in
theorem c_in (l : Launch) (h : jH) (x y z : Int) (hx : jrl x) (hy : jrl y) (hz : jrl z) : cI l 200 [.long (jl x), .long (jl y), .long (jl z)] h (fun r h' => h' = h ∧ r = if y ≤ x ∧ x ≤ z then 1 else 0) := by
  have x1 := hx.1
  have x2 := hx.2
  have y1 := hy.1
  have y2 := hy.2
  have z1 := hz.1
  have z2 := hz.2
  refine cI.ofZ rfl rfl ?_
  refine tl_lload_n rfl rfl ?_
  refine tl_lload_n rfl rfl ?_
  refine tl_lcmp rfl ⟨by omega, by omega⟩ ⟨by omega, by omega⟩ ?_
  refine tl_if_lt (tgt := 17) rfl rfl ⟨by omega, by omega⟩ (fun c1 => ?_) (fun c1 => ?_)
  · skip
    refine tl_iconst rfl ?_
    refine tl_iret rfl ?_
    -- leaf 0 at 18
    exact ⟨_, rfl, by omega, rfl, by split <;> omega⟩
  · show jT _ _ 6 _ _ _ _
    show jT _ _ 6 _ _ _ _
    refine tl_lload_n rfl rfl ?_
    refine tl_lload rfl rfl ?_
    refine tl_lcmp rfl ⟨by omega, by omega⟩ ⟨by omega, by omega⟩ ?_
    refine tl_if_gt (tgt := 17) rfl rfl ⟨by omega, by omega⟩ (fun c2 => ?_) (fun c2 => ?_)
    · skip
      refine tl_iconst rfl ?_
      refine tl_iret rfl ?_
      -- leaf 1 at 18
      exact ⟨_, rfl, by omega, rfl, by split <;> omega⟩
    · show jT _ _ 13 _ _ _ _
      refine tl_iconst rfl ?_
      show jT _ _ 14 _ _ _ _
      refine tl_goto (tgt := 18) rfl rfl ?_
      refine tl_iret rfl ?_
      -- leaf 2 at 18
      exact ⟨_, rfl, by omega, rfl, by split <;> omega⟩
set_option maxRecDepth 20000 in
set_option maxHeartbeats 1000000 in
theorem c_fileAt (l : Launch) (h : jH) (f : Int) : cI l 202 [.int (jI f)] h (fun r h' => h' = h ∧ r = 5 + 65 * f) := by
  refine cI.of rfl rfl ?_
  refine tl_iconst rfl ?_
  refine tl_bipush rfl rfl ?_
  refine tl_iload_n rfl rfl ?_
  refine tl_imul rfl ?_
  refine tl_iadd rfl ?_
  refine tl_iret rfl ?_
  -- leaf 0 at 6
  exact ⟨_, rfl, rfl, by omega⟩
set_option maxRecDepth 20000 in
set_option maxHeartbeats 1000000 in
theorem c_slotAt (l : Launch) (h : jH) (f : Int) : cI l 203 [.int (jI f)] h (fun r h' => h' = h ∧ r = 200 + 301 * f) := by
  refine cI.of rfl rfl ?_
  refine tl_sipush rfl rfl ?_
  refine tl_sipush rfl rfl ?_
  refine tl_iload_n rfl rfl ?_
  refine tl_imul rfl ?_
  refine tl_iadd rfl ?_
  refine tl_iret rfl ?_
  -- leaf 0 at 9
  exact ⟨_, rfl, rfl, by omega⟩
set_option maxRecDepth 20000 in
set_option maxHeartbeats 1000000 in
theorem c_sizeOf (l : Launch) (h : jH) (f : Int) (f0 : 0 ≤ f) (f2 : f ≤ 2) : cI l 204 [.ref 388, .int (jI f)] h (fun r h' => h' = h ∧ r = h 390 (5 + 65 * f).toNat) := by
  refine cI.of rfl rfl ?_
  refine tl_aload_n rfl rfl ?_
  refine tl_getr (c := 12) (k9 := 3) (b := 390) rfl rfl rfl rfl ?_
  refine tl_iload_n rfl rfl ?_
  refine tl_s1i (c_fileAt l _ _) rfl rfl rfl (Nat.le_of_ble_eq_true rfl) (fun z1 h1 q1 => ?_)
  obtain ⟨rfl, rfl⟩ := q1
  refine tl_iald (n := 1362) rfl rfl rfl (by omega) (by omega) ?_
  refine tl_iret rfl ?_
  -- leaf 0 at 9
  exact ⟨_, rfl, rfl, rfl⟩
set_option maxRecDepth 20000 in
set_option maxHeartbeats 1000000 in
theorem c_at (l : Launch) (h : jH) (f i : Int) (f0 : 0 ≤ f) (f2 : f ≤ 2) (i0 : 0 ≤ i) (i2 : i < 64) : cI l 205 [.ref 388, .int (jI f), .int (jI i)] h (fun r h' => h' = h ∧ r = h 390 (6 + 65 * f + i).toNat) := by
  refine cI.of rfl rfl ?_
  refine tl_aload_n rfl rfl ?_
  refine tl_getr (c := 12) (k9 := 3) (b := 390) rfl rfl rfl rfl ?_
  refine tl_iload_n rfl rfl ?_
  refine tl_s1i (c_fileAt l _ _) rfl rfl rfl (Nat.le_of_ble_eq_true rfl) (fun z1 h1 q1 => ?_)
  obtain ⟨rfl, rfl⟩ := q1
  refine tl_iconst rfl ?_
  refine tl_iadd rfl ?_
  show jT _ _ 10 _ _ _ _
  refine tl_iload_n rfl rfl ?_
  refine tl_iadd rfl ?_
  refine tl_iald (n := 1362) rfl rfl rfl (by omega) (by omega) ?_
  refine tl_iret rfl ?_
  -- leaf 0 at 13
  exact ⟨_, rfl, rfl, by congr 2; omega⟩
set_option maxRecDepth 20000 in
set_option maxHeartbeats 1000000 in
theorem c_isSlotR (l : Launch) (h : jH) (k : Int) (hk : jr k) : cI l 208 [.int (jI k)] h (fun r h' => h' = h ∧ r = if 0 ≤ k ∧ k ≤ 2 then 1 else 0) := by
  have k1 := hk.1
  have k2 := hk.2
  refine cI.ofZ rfl rfl ?_
  refine tl_iload_n rfl rfl ?_
  refine tl_i2l rfl ⟨by omega, by omega⟩ ?_
  refine tl_lconst (z := 0) rfl rfl ?_
  refine tl_ldc2 (z := 2) rfl (by decide +kernel) ?_
  refine tl_s3i (c_in l _ _ _ _ ⟨by omega, by omega⟩ ⟨by omega, by omega⟩ ⟨by omega, by omega⟩) rfl rfl rfl (Nat.le_of_ble_eq_true rfl) (fun z1 h1 q1 => ?_)
  obtain ⟨rfl, q1⟩ := q1
  refine tl_iret rfl ?_
  -- leaf 0 at 9
  exact ⟨_, rfl, by rw [q1]; split <;> omega, rfl, q1⟩
set_option maxRecDepth 20000 in
set_option maxHeartbeats 1000000 in
theorem c_has (l : Launch) (h : jH) (k : Int) (k0 : 0 ≤ k) (k2 : k ≤ 2) (hr : jr (h 390 (200 + 301 * k).toNat)) : cI l 209 [.ref 388, .int (jI k)] h (fun r h' => h' = h ∧ r = if h 390 (200 + 301 * k).toNat = -1 then 0 else 1) := by
  have r1 := hr.1
  have r2 := hr.2
  refine cI.ofZ rfl rfl ?_
  refine tl_aload_n rfl rfl ?_
  refine tl_getr (c := 12) (k9 := 3) (b := 390) rfl rfl rfl rfl ?_
  refine tl_iload_n rfl rfl ?_
  refine tl_s1i (c_slotAt l _ _) rfl rfl rfl (Nat.le_of_ble_eq_true rfl) (fun z1 h1 q1 => ?_)
  obtain ⟨rfl, rfl⟩ := q1
  refine tl_iald (n := 1362) rfl rfl rfl (by omega) (by omega) ?_
  refine tl_iconst rfl ?_
  show jT _ _ 10 _ _ _ _
  refine tl_icmp_eq (tgt := 17) rfl rfl ⟨by omega, by omega⟩ ⟨by omega, by omega⟩ (fun c1 => ?_) (fun c1 => ?_)
  · skip
    refine tl_iconst rfl ?_
    refine tl_iret rfl ?_
    -- leaf 0 at 18
    exact ⟨_, rfl, by omega, rfl, by split <;> omega⟩
  · show jT _ _ 13 _ _ _ _
    refine tl_iconst rfl ?_
    refine tl_goto (tgt := 18) rfl rfl ?_
    refine tl_iret rfl ?_
    -- leaf 1 at 18
    exact ⟨_, rfl, by omega, rfl, by split <;> omega⟩
set_option maxRecDepth 20000 in
set_option maxHeartbeats 1000000 in
theorem c_runsR (l : Launch) (h : jH) (hr : jr (h 390 1167)) : cI l 210 [.ref 388] h (fun r h' => h' = h ∧ r = if h 390 1167 = 1 then 1 else 0) := by
  have r1 := hr.1
  have r2 := hr.2
  refine cI.ofZ rfl rfl ?_
  refine tl_aload_n rfl rfl ?_
  refine tl_getr (c := 12) (k9 := 3) (b := 390) rfl rfl rfl rfl ?_
  refine tl_sipush rfl rfl ?_
  refine tl_iald (n := 1362) rfl rfl rfl (by omega) (by omega) ?_
  rw [show Int.toNat 1167 = 1167 from rfl]
  refine tl_iconst rfl ?_
  refine tl_icmp_ne (tgt := 16) rfl rfl ⟨by omega, by omega⟩ ⟨by omega, by omega⟩ (fun c1 => ?_) (fun c1 => ?_)
  · skip
    show jT _ _ 16 _ _ _ _
    refine tl_iconst rfl ?_
    refine tl_iret rfl ?_
    -- leaf 0 at 17
    exact ⟨_, rfl, by omega, rfl, by split <;> omega⟩
  · show jT _ _ 12 _ _ _ _
    refine tl_iconst rfl ?_
    refine tl_goto (tgt := 17) rfl rfl ?_
    refine tl_iret rfl ?_
    -- leaf 1 at 17
    exact ⟨_, rfl, by omega, rfl, by split <;> omega⟩
set_option maxRecDepth 20000 in
set_option maxHeartbeats 1000000 in
theorem c_isBarred (l : Launch) (h : jH) (p : Int) (p0 : 0 ≤ p) (p2 : p < 64) (hr : jr (h 390 (1103 + p).toNat)) : cI l 211 [.ref 388, .int (jI p)] h (fun r h' => h' = h ∧ r = if h 390 (1103 + p).toNat = 1 then 1 else 0) := by
  have r1 := hr.1
  have r2 := hr.2
  refine cI.ofZ rfl rfl ?_
  refine tl_aload_n rfl rfl ?_
  refine tl_getr (c := 12) (k9 := 3) (b := 390) rfl rfl rfl rfl ?_
  refine tl_sipush rfl rfl ?_
  refine tl_iload_n rfl rfl ?_
  refine tl_iadd rfl ?_
  refine tl_iald (n := 1362) rfl rfl rfl (by omega) (by omega) ?_
  show jT _ _ 10 _ _ _ _
  refine tl_iconst rfl ?_
  refine tl_icmp_ne (tgt := 18) rfl rfl ⟨by omega, by omega⟩ ⟨by omega, by omega⟩ (fun c1 => ?_) (fun c1 => ?_)
  · skip
    refine tl_iconst rfl ?_
    refine tl_iret rfl ?_
    -- leaf 0 at 19
    exact ⟨_, rfl, by omega, rfl, by split <;> omega⟩
  · show jT _ _ 14 _ _ _ _
    refine tl_iconst rfl ?_
    refine tl_goto (tgt := 19) rfl rfl ?_
    refine tl_iret rfl ?_
    -- leaf 1 at 19
    exact ⟨_, rfl, by omega, rfl, by split <;> omega⟩
set_option maxRecDepth 20000 in
set_option maxHeartbeats 1000000 in
/-- tell(v): the status, and a count for what is refused -/
theorem c_tell (l : Launch) (h : jH) (v : Int) (hv : jr v) (v6 : -6 ≤ v) : cI l 201 [.ref 388, .int (jI v)] h (fun r h' => r = v ∧ h' = if v < 0 then hs (hs h 388 1 v) 389 (-v).toNat (h 389 (-v).toNat + 1) else hs h 388 1 0) := by
  have v1 := hv.1
  have v2 := hv.2
  refine cI.of rfl rfl ?_
  refine tl_aload_n rfl rfl ?_
  refine tl_iload_n rfl rfl ?_
  refine tl_if_ge (tgt := 9) rfl rfl ⟨by omega, by omega⟩ (fun c1 => ?_) (fun c1 => ?_)
  · skip
    refine tl_iconst rfl ?_
    refine tl_puti (c := 12) (k9 := 1) rfl rfl rfl rfl ?_
    refine tl_iload_n rfl rfl ?_
    show jT _ _ 14 _ _ _ _
    refine tl_if_ge (tgt := 28) rfl rfl ⟨by omega, by omega⟩ (fun c2 => ?_) (fun c2 => ?_)
    · skip
      refine tl_iload_n rfl rfl ?_
      refine tl_iret rfl ?_
      -- leaf 0 at 29
      first
        | (exfalso; omega)
        | exact ⟨_, rfl, rfl, by rw [if_neg (by omega)]⟩
        | exact ⟨_, rfl, rfl, by rw [if_pos (by omega), hs_o (show (389 : Nat) ≠ 388 by decide)]⟩
    · show jT _ _ 17 _ _ _ _
      refine tl_aload_n rfl rfl ?_
      refine tl_getr (c := 12) (k9 := 2) (b := 389) rfl rfl rfl rfl ?_
      refine tl_iload_n rfl rfl ?_
      refine tl_ineg rfl ?_
      show jT _ _ 23 _ _ _ _
      refine tl_dup2 rfl rfl rfl ?_
      refine tl_iald (n := 7) rfl rfl rfl (by omega) (by omega) ?_
      refine tl_iconst rfl ?_
      refine tl_iadd rfl ?_
      refine tl_iast (n := 7) rfl rfl rfl (by omega) (by omega) ?_
      refine tl_iload_n rfl rfl ?_
      refine tl_iret rfl ?_
      -- leaf 1 at 29
      first
        | (exfalso; omega)
        | exact ⟨_, rfl, rfl, by rw [if_neg (by omega)]⟩
        | exact ⟨_, rfl, rfl, by rw [if_pos (by omega), hs_o (show (389 : Nat) ≠ 388 by decide)]⟩
  · show jT _ _ 5 _ _ _ _
    show jT _ _ 5 _ _ _ _
    refine tl_iload_n rfl rfl ?_
    refine tl_goto (tgt := 10) rfl rfl ?_
    refine tl_puti (c := 12) (k9 := 1) rfl rfl rfl rfl ?_
    refine tl_iload_n rfl rfl ?_
    refine tl_if_ge (tgt := 28) rfl rfl ⟨by omega, by omega⟩ (fun c3 => ?_) (fun c3 => ?_)
    · skip
      refine tl_iload_n rfl rfl ?_
      refine tl_iret rfl ?_
      -- leaf 2 at 29
      first
        | (exfalso; omega)
        | exact ⟨_, rfl, rfl, by rw [if_neg (by omega)]⟩
        | exact ⟨_, rfl, rfl, by rw [if_pos (by omega), hs_o (show (389 : Nat) ≠ 388 by decide)]⟩
    · show jT _ _ 17 _ _ _ _
      show jT _ _ 17 _ _ _ _
      refine tl_aload_n rfl rfl ?_
      refine tl_getr (c := 12) (k9 := 2) (b := 389) rfl rfl rfl rfl ?_
      refine tl_iload_n rfl rfl ?_
      refine tl_ineg rfl ?_
      refine tl_dup2 rfl rfl rfl ?_
      refine tl_iald (n := 7) rfl rfl rfl (by omega) (by omega) ?_
      refine tl_iconst rfl ?_
      show jT _ _ 26 _ _ _ _
      refine tl_iadd rfl ?_
      refine tl_iast (n := 7) rfl rfl rfl (by omega) (by omega) ?_
      refine tl_iload_n rfl rfl ?_
      refine tl_iret rfl ?_
      -- leaf 3 at 29
      first
        | (exfalso; omega)
        | exact ⟨_, rfl, rfl, by rw [if_neg (by omega)]⟩
        | exact ⟨_, rfl, rfl, by rw [if_pos (by omega), hs_o (show (389 : Nat) ≠ 388 by decide)]⟩
