/-! what is told without any reckoning: both sides -/
set_option maxRecDepth 20000 in
set_option maxHeartbeats 1000000 in
theorem k_isSlot (l : Launch) (h : jH) (k : Int) (hk : jr k) : cI l 187 [.int (jI k)] h (fun z h' => h' = h ∧ z = if 0 ≤ k ∧ k ≤ 2 then 1 else 0) := by
  have k1 := hk.1
  have k2 := hk.2
  refine cI.ofZ rfl rfl ?_
  refine tl_iload_n rfl rfl ?_
  refine tl_if_lt (tgt := 13) rfl rfl ⟨by omega, by omega⟩ (fun c1 => ?_) (fun c1 => ?_)
  · skip
    refine tl_iconst rfl ?_
    refine tl_iret rfl ?_
    -- leaf 0 at 14
    exact ⟨_, rfl, by omega, rfl, by split <;> omega⟩
  · show jT _ _ 4 _ _ _ _
    refine tl_iload_n rfl rfl ?_
    refine tl_iconst rfl ?_
    show jT _ _ 6 _ _ _ _
    refine tl_icmp_ge (tgt := 13) rfl rfl ⟨by omega, by omega⟩ ⟨by omega, by omega⟩ (fun c2 => ?_) (fun c2 => ?_)
    · skip
      refine tl_iconst rfl ?_
      refine tl_iret rfl ?_
      -- leaf 1 at 14
      exact ⟨_, rfl, by omega, rfl, by split <;> omega⟩
    · show jT _ _ 9 _ _ _ _
      refine tl_iconst rfl ?_
      refine tl_goto (tgt := 14) rfl rfl ?_
      refine tl_iret rfl ?_
      -- leaf 2 at 14
      exact ⟨_, rfl, by omega, rfl, by split <;> omega⟩
set_option maxRecDepth 20000 in
set_option maxHeartbeats 1000000 in
theorem k_isByte (l : Launch) (h : jH) (k : Int) (hk : jr k) : cI l 188 [.int (jI k)] h (fun z h' => h' = h ∧ z = if 0 ≤ k ∧ k ≤ 255 then 1 else 0) := by
  have k1 := hk.1
  have k2 := hk.2
  refine cI.ofZ rfl rfl ?_
  refine tl_iload_n rfl rfl ?_
  refine tl_if_lt (tgt := 15) rfl rfl ⟨by omega, by omega⟩ (fun c1 => ?_) (fun c1 => ?_)
  · skip
    refine tl_iconst rfl ?_
    refine tl_iret rfl ?_
    -- leaf 0 at 16
    exact ⟨_, rfl, by omega, rfl, by split <;> omega⟩
  · show jT _ _ 4 _ _ _ _
    refine tl_iload_n rfl rfl ?_
    refine tl_sipush rfl rfl ?_
    show jT _ _ 8 _ _ _ _
    refine tl_icmp_gt (tgt := 15) rfl rfl ⟨by omega, by omega⟩ ⟨by omega, by omega⟩ (fun c2 => ?_) (fun c2 => ?_)
    · skip
      refine tl_iconst rfl ?_
      refine tl_iret rfl ?_
      -- leaf 1 at 16
      exact ⟨_, rfl, by omega, rfl, by split <;> omega⟩
    · show jT _ _ 11 _ _ _ _
      refine tl_iconst rfl ?_
      refine tl_goto (tgt := 16) rfl rfl ?_
      refine tl_iret rfl ?_
      -- leaf 2 at 16
      exact ⟨_, rfl, by omega, rfl, by split <;> omega⟩
set_option maxRecDepth 20000 in
set_option maxHeartbeats 1000000 in
/-- isFull(slot) -/
theorem k_isFull (l : Launch) (h : jH) (R : Nat → Int) (hI : RS h 1 R) (slot : Int) (hslot : jr slot) : cI l 190 [.ref 0, .int (jI slot)] h (fun z h' => h' = h ∧ z = if (0 ≤ slot ∧ slot ≤ 2) ∧ R (200 + 301 * slot).toNat ≠ -1 then 1 else 0) := by
  have slot1 := hslot.1
  have slot2 := hslot.2
  refine cI.ofZ rfl rfl ?_
  refine tl_iload_n rfl rfl ?_
  refine tl_s1i (k_isSlot l _ _ ⟨by omega, by omega⟩) rfl rfl rfl (Nat.le_of_ble_eq_true rfl) (fun zs h1 q3 => ?_)
  obtain ⟨rfl, q3⟩ := q3
  have q4 : zs = 0 ∨ zs = 1 := by rw [q3]; split <;> omega
  refine tl_if_eq (tgt := 26) rfl rfl ⟨by omega, by omega⟩ (fun c1 => ?_) (fun c1 => ?_)
  · skip
    refine tl_iconst rfl ?_
    refine tl_iret rfl ?_
    -- leaf 0 at 27
    refine ⟨_, rfl, by omega, rfl, ?_⟩
    first | omega | (split <;> omega)
  · show jT _ _ 7 _ _ _ _
    refine tl_aload_n rfl rfl ?_
    show jT _ _ 8 _ _ _ _
    refine tl_getr (c := 11) (k9 := 0) (b := 1) rfl rfl rfl rfl ?_
    refine tl_getr (c := 9) (k9 := 3) (b := 8) rfl rfl rfl rfl ?_
    refine tl_iload_n rfl rfl ?_
    have hS := RSs_S slot.toNat (by omega)
    have hF := hI.2.1 slot.toNat (by omega)
    have eo : (200 + 301 * slot.toNat : Nat) = (200 + 301 * slot).toNat := by omega
    rw [eo] at hF
    have hF1 : h1 (9 + 2 * slot.toNat) 1 = _ := hF.1
    refine tl_aald (n := 3) rfl (Or.inl rfl) rfl (by omega) (by omega) (sr8 slot.toNat (by omega)) ?_
    refine tl_geti (c := 8) (k9 := 1) rfl hS.1 rfl ?_
    rw [hF1]
    have hF2 := hF.2.1
    refine tl_if_le (tgt := 26) rfl rfl ⟨by omega, by omega⟩ (fun c2 => ?_) (fun c2 => ?_)
    · skip
      refine tl_iconst rfl ?_
      show jT _ _ 27 _ _ _ _
      refine tl_iret rfl ?_
      -- leaf 1 at 27
      refine ⟨_, rfl, by omega, rfl, ?_⟩
      first | omega | (split <;> omega)
    · show jT _ _ 22 _ _ _ _
      refine tl_iconst rfl ?_
      refine tl_goto (tgt := 27) rfl rfl ?_
      refine tl_iret rfl ?_
      -- leaf 2 at 27
      refine ⟨_, rfl, by omega, rfl, ?_⟩
      first | omega | (split <;> omega)
set_option maxRecDepth 20000 in
set_option maxHeartbeats 1000000 in
theorem k_length (l : Launch) (h s : jH) (t slot : Int) (hI9 : IC h s t) (hslot : jr slot) : cI l 135 [.ref 0, .int (jI slot)] h (fun z h' => h' = h ∧ z = if 0 ≤ slot ∧ slot ≤ 2 then s 390 (200 + 301 * slot).toNat else -1) := by
  have slot1 := hslot.1
  have slot2 := hslot.2
  have hI := hI9.1
  refine cI.of rfl rfl ?_
  refine tl_aload_n rfl rfl ?_
  refine tl_iload_n rfl rfl ?_
  refine tl_v1i (c9 := 11) (k_isFull l _ _ hI slot hslot) rfl rfl rfl rfl rfl (Nat.le_of_ble_eq_true rfl) (fun zf h1 q3 => ?_)
  obtain ⟨rfl, q3⟩ := q3
  have q4 : zf = 0 ∨ zf = 1 := by rw [q3]; split <;> omega
  refine tl_if_eq (tgt := 23) rfl rfl ⟨by omega, by omega⟩ (fun c1 => ?_) (fun c1 => ?_)
  · skip
    refine tl_iconst rfl ?_
    refine tl_iret rfl ?_
    -- leaf 0 at 24
    refine ⟨_, rfl, rfl, ?_⟩
    first | omega | (split <;> omega)
  · show jT _ _ 8 _ _ _ _
    show jT _ _ 8 _ _ _ _
    refine tl_aload_n rfl rfl ?_
    refine tl_getr (c := 11) (k9 := 0) (b := 1) rfl rfl rfl rfl ?_
    refine tl_getr (c := 9) (k9 := 3) (b := 8) rfl rfl rfl rfl ?_
    refine tl_iload_n rfl rfl ?_
    have hS := RSs_S slot.toNat (by omega)
    have hF := hI.2.1 slot.toNat (by omega)
    have eo : (200 + 301 * slot.toNat : Nat) = (200 + 301 * slot).toNat := by omega
    rw [eo] at hF
    have hF1 : h1 (9 + 2 * slot.toNat) 1 = _ := hF.1
    refine tl_aald (n := 3) rfl (Or.inl rfl) rfl (by omega) (by omega) (sr8 slot.toNat (by omega)) ?_
    refine tl_geti (c := 8) (k9 := 1) rfl hS.1 rfl ?_
    rw [hF1]
    have hF2 := hF.2.1
    refine tl_goto (tgt := 24) rfl rfl ?_
    show jT _ _ 24 _ _ _ _
    refine tl_iret rfl ?_
    -- leaf 1 at 24
    refine ⟨_, rfl, rfl, ?_⟩
    first | omega | (split <;> omega)
set_option maxRecDepth 20000 in
set_option maxHeartbeats 1000000 in
theorem k_patch (l : Launch) (h s : jH) (t slot index : Int) (hI9 : IC h s t) (hslot : jr slot) (hindex : jr index) : cI l 136 [.ref 0, .int (jI slot), .int (jI index)] h (fun z h' => h' = h ∧ z = if (0 ≤ slot ∧ slot ≤ 2) ∧ 0 ≤ index ∧ index < s 390 (200 + 301 * slot).toNat then s 390 ((201 + 301 * slot).toNat + index.toNat) else -1) := by
  have slot1 := hslot.1
  have slot2 := hslot.2
  have hI := hI9.1
  refine cI.of rfl rfl ?_
  refine tl_aload_n rfl rfl ?_
  refine tl_iload_n rfl rfl ?_
  refine tl_v1i (c9 := 11) (k_isFull l _ _ hI slot hslot) rfl rfl rfl rfl rfl (Nat.le_of_ble_eq_true rfl) (fun zf h1 q3 => ?_)
  obtain ⟨rfl, q3⟩ := q3
  have q4 : zf = 0 ∨ zf = 1 := by rw [q3]; split <;> omega
  refine tl_if_eq (tgt := 24) rfl rfl ⟨by omega, by omega⟩ (fun c1 => ?_) (fun c1 => ?_)
  · skip
    refine tl_iconst rfl ?_
    refine tl_iret rfl ?_
    -- leaf 0 at 25
    refine ⟨_, rfl, rfl, ?_⟩
    rw [if_neg]
    omega
  · show jT _ _ 8 _ _ _ _
    show jT _ _ 8 _ _ _ _
    refine tl_aload_n rfl rfl ?_
    refine tl_getr (c := 11) (k9 := 0) (b := 1) rfl rfl rfl rfl ?_
    refine tl_getr (c := 9) (k9 := 3) (b := 8) rfl rfl rfl rfl ?_
    refine tl_iload_n rfl rfl ?_
    have hS := RSs_S slot.toNat (by omega)
    have hF := hI.2.1 slot.toNat (by omega)
    have eo : (200 + 301 * slot.toNat : Nat) = (200 + 301 * slot).toNat := by omega
    rw [eo] at hF
    have hF1 : h1 (9 + 2 * slot.toNat) 1 = _ := hF.1
    have hF2 := hF.2.1
    refine tl_aald (n := 3) rfl (Or.inl rfl) rfl (by omega) (by omega) (sr8 slot.toNat (by omega)) ?_
    refine tl_iload_n rfl rfl ?_
    refine tl_v1i (c9 := 8) (c_Row_get l hS h1 index (by rw [hF1]; split <;> omega) (by rw [hF1]; split <;> omega) hindex) rfl rfl rfl hS.1 rfl (Nat.le_of_ble_eq_true rfl) (fun zg h2 q5 => ?_)
    obtain ⟨rfl, rfl⟩ := q5
    show jT _ _ 21 _ _ _ _
    refine tl_goto (tgt := 25) rfl rfl ?_
    refine tl_iret rfl ?_
    -- leaf 1 at 25
    refine ⟨_, rfl, rfl, ?_⟩
    rw [hF1]
    by_cases c9 : 0 ≤ index ∧ index < s 390 (200 + 301 * slot).toNat
    · rw [if_pos (by split <;> omega), if_pos ⟨by omega, c9⟩]
      have hb := (hF.2.2 index.toNat (by omega)).1
      rw [show (200 + 301 * slot).toNat + 1 + index.toNat = (201 + 301 * slot).toNat + index.toNat by omega, show 1 + 8 + 2 * slot.toNat + 1 = 10 + 2 * slot.toNat by omega] at hb
      exact hb
    · rw [if_neg (by split <;> omega), if_neg (by omega)]
set_option maxRecDepth 20000 in
set_option maxHeartbeats 1000000 in
theorem k_byteOf (l : Launch) (h s : jH) (t f i : Int) (hI : IC h s t) (hf : jr f) (hi : jr i) : cI l 134 [.ref 0, .int (jI f), .int (jI i)] h (fun z h' => h' = h ∧ z = if (0 ≤ f ∧ f ≤ 2) ∧ 0 ≤ i ∧ i < s 390 (5 + 65 * f).toNat then s 390 ((6 + 65 * f).toNat + i.toNat) else -1) := by
  have f1 := hf.1
  have f2 := hf.2
  refine cI.of rfl rfl ?_
  refine tl_iload_n rfl rfl ?_
  refine tl_if_lt (tgt := 9) rfl rfl ⟨by omega, by omega⟩ (fun c1 => ?_) (fun c1 => ?_)
  · skip
    refine tl_iconst rfl ?_
    refine tl_goto (tgt := 25) rfl rfl ?_
    refine tl_iret rfl ?_
    -- leaf 0 at 25
    exact ⟨_, rfl, rfl, by rw [if_neg (by omega)]⟩
  · show jT _ _ 4 _ _ _ _
    refine tl_iload_n rfl rfl ?_
    show jT _ _ 5 _ _ _ _
    refine tl_iconst rfl ?_
    refine tl_icmp_le (tgt := 13) rfl rfl ⟨by omega, by omega⟩ ⟨by omega, by omega⟩ (fun c2 => ?_) (fun c2 => ?_)
    · skip
      refine tl_aload_n rfl rfl ?_
      refine tl_getr (c := 11) (k9 := 0) (b := 1) rfl rfl rfl rfl ?_
      refine tl_iload_n rfl rfl ?_
      refine tl_v1r (c9 := 9) (c_fileAt_now l h f (by omega) (by omega)) rfl rfl rfl rfl rfl (Nat.le_of_ble_eq_true rfl) (fun a h1 q => ?_)
      obtain ⟨rfl, rfl⟩ := q
      have hS := RSf_S f.toNat (by omega)
      have hF := hI.1.1 f.toNat (by omega)
      have eo : (5 + 65 * f.toNat : Nat) = (5 + 65 * f).toNat := by omega
      rw [eo] at hF
      have hF1 : h1 (2 + 2 * f.toNat) 1 = s 390 (5 + 65 * f).toNat := by rw [show 2 + 2 * f.toNat = 1 + 1 + 2 * f.toNat by omega]; exact hF.1
      have hF2 := hF.2.1
      have hF3 := hF.2.2.1
      refine tl_iload_n rfl rfl ?_
      show jT _ _ 22 _ _ _ _
      refine tl_v1i (c9 := 8) (c_Row_get l hS h1 i (by omega) (by omega) hi) rfl rfl rfl hS.1 rfl (Nat.le_of_ble_eq_true rfl) (fun zg h2 q5 => ?_)
      obtain ⟨rfl, rfl⟩ := q5
      refine tl_iret rfl ?_
      -- leaf 1 at 25
      refine ⟨_, rfl, rfl, ?_⟩
      rw [hF1]
      by_cases c9 : 0 ≤ i ∧ i < s 390 (5 + 65 * f).toNat
      · rw [if_pos c9, if_pos ⟨by omega, c9⟩]
        have hb := (hF.2.2.2 i.toNat (by omega)).1
        rw [show (5 + 65 * f).toNat + 1 + i.toNat = (6 + 65 * f).toNat + i.toNat by omega, show 1 + 1 + 2 * f.toNat + 1 = 3 + 2 * f.toNat by omega] at hb
        exact hb
      · rw [if_neg c9, if_neg (by omega)]
    · show jT _ _ 9 _ _ _ _
      refine tl_iconst rfl ?_
      refine tl_goto (tgt := 25) rfl rfl ?_
      refine tl_iret rfl ?_
      -- leaf 2 at 25
      exact ⟨_, rfl, rfl, by rw [if_neg (by omega)]⟩
set_option maxRecDepth 20000 in
set_option maxHeartbeats 1000000 in
theorem k_fault (l : Launch) (h s : jH) (t : Int) (hI : IC h s t) : cI l 145 [.ref 0] h (fun z h' => h' = h ∧ z = s 388 59) := by
  obtain ⟨-, -, -, n1, n2, n3, n4, n5, n6, n7, n8, n9, n10, n11, n12, n13, n14, n15⟩ := hI
  refine cI.of rfl rfl ?_
  refine tl_aload_n rfl rfl ?_
  refine tl_getr (c := 11) (k9 := 15) (b := 362) rfl rfl rfl rfl ?_
  refine tl_geti (c := 7) (k9 := 0) rfl rfl rfl ?_
  refine tl_iret rfl ?_
  -- leaf 0 at 7
  exact ⟨_, rfl, rfl, by assumption⟩
set_option maxRecDepth 20000 in
set_option maxHeartbeats 1000000 in
theorem r_fault (l : Launch) (h : jH) : cI l 333 [.ref 388] h (fun z h' => h' = hs h 388 0 0 ∧ z = h 388 59) := by
  refine cI.of rfl rfl ?_
  refine tl_aload_n rfl rfl ?_
  refine tl_iconst rfl ?_
  refine tl_puti (c := 12) (k9 := 0) rfl rfl rfl rfl ?_
  refine tl_aload_n rfl rfl ?_
  refine tl_geti (c := 12) (k9 := 59) rfl rfl rfl ?_
  refine tl_iret rfl ?_
  -- leaf 0 at 9
  exact ⟨_, rfl, rfl, by rw [hs_k (by decide)]⟩
set_option maxRecDepth 20000 in
set_option maxHeartbeats 1000000 in
theorem k_stopped (l : Launch) (h s : jH) (t : Int) (hI : IC h s t) : cI l 146 [.ref 0] h (fun z h' => h' = h ∧ z = s 388 74) := by
  obtain ⟨-, -, -, n1, n2, n3, n4, n5, n6, n7, n8, n9, n10, n11, n12, n13, n14, n15⟩ := hI
  refine cI.of rfl rfl ?_
  refine tl_aload_n rfl rfl ?_
  refine tl_getr (c := 11) (k9 := 15) (b := 362) rfl rfl rfl rfl ?_
  refine tl_geti (c := 7) (k9 := 1) rfl rfl rfl ?_
  refine tl_iret rfl ?_
  -- leaf 0 at 7
  exact ⟨_, rfl, rfl, by assumption⟩
set_option maxRecDepth 20000 in
set_option maxHeartbeats 1000000 in
theorem r_stopped (l : Launch) (h : jH) : cI l 334 [.ref 388] h (fun z h' => h' = hs h 388 0 0 ∧ z = h 388 74) := by
  refine cI.of rfl rfl ?_
  refine tl_aload_n rfl rfl ?_
  refine tl_iconst rfl ?_
  refine tl_puti (c := 12) (k9 := 0) rfl rfl rfl rfl ?_
  refine tl_aload_n rfl rfl ?_
  refine tl_geti (c := 12) (k9 := 74) rfl rfl rfl ?_
  refine tl_iret rfl ?_
  -- leaf 0 at 9
  exact ⟨_, rfl, rfl, by rw [hs_k (by decide)]⟩
set_option maxRecDepth 20000 in
set_option maxHeartbeats 1000000 in
theorem k_flaw (l : Launch) (h s : jH) (t : Int) (hI : IC h s t) : cI l 155 [.ref 0] h (fun z h' => h' = h ∧ z = s 388 45) := by
  obtain ⟨-, -, -, n1, n2, n3, n4, n5, n6, n7, n8, n9, n10, n11, n12, n13, n14, n15⟩ := hI
  refine cI.of rfl rfl ?_
  refine tl_aload_n rfl rfl ?_
  refine tl_geti (c := 11) (k9 := 9) rfl rfl rfl ?_
  refine tl_iret rfl ?_
  -- leaf 0 at 4
  exact ⟨_, rfl, rfl, by assumption⟩
set_option maxRecDepth 20000 in
set_option maxHeartbeats 1000000 in
theorem r_flaw (l : Launch) (h : jH) : cI l 300 [.ref 388] h (fun z h' => h' = hs h 388 0 0 ∧ z = h 388 45) := by
  refine cI.of rfl rfl ?_
  refine tl_aload_n rfl rfl ?_
  refine tl_iconst rfl ?_
  refine tl_puti (c := 12) (k9 := 0) rfl rfl rfl rfl ?_
  refine tl_aload_n rfl rfl ?_
  refine tl_geti (c := 12) (k9 := 45) rfl rfl rfl ?_
  refine tl_iret rfl ?_
  -- leaf 0 at 9
  exact ⟨_, rfl, rfl, by rw [hs_k (by decide)]⟩
set_option maxRecDepth 20000 in
set_option maxHeartbeats 1000000 in
theorem k_status (l : Launch) (h s : jH) (t : Int) (hI : IC h s t) : cI l 186 [.ref 0] h (fun z h' => h' = h ∧ z = s 388 1) := by
  obtain ⟨-, -, -, n1, n2, n3, n4, n5, n6, n7, n8, n9, n10, n11, n12, n13, n14, n15⟩ := hI
  refine cI.of rfl rfl ?_
  refine tl_aload_n rfl rfl ?_
  refine tl_geti (c := 11) (k9 := 8) rfl rfl rfl ?_
  refine tl_iret rfl ?_
  -- leaf 0 at 4
  exact ⟨_, rfl, rfl, by assumption⟩
set_option maxRecDepth 20000 in
set_option maxHeartbeats 1000000 in
theorem r_status (l : Launch) (h : jH) : cI l 355 [.ref 388] h (fun z h' => h' = hs h 388 0 0 ∧ z = h 388 1) := by
  refine cI.of rfl rfl ?_
  refine tl_aload_n rfl rfl ?_
  refine tl_iconst rfl ?_
  refine tl_puti (c := 12) (k9 := 0) rfl rfl rfl rfl ?_
  refine tl_aload_n rfl rfl ?_
  refine tl_geti (c := 12) (k9 := 1) rfl rfl rfl ?_
  refine tl_iret rfl ?_
  -- leaf 0 at 9
  exact ⟨_, rfl, rfl, by rw [hs_k (by decide)]⟩
set_option maxRecDepth 20000 in
set_option maxHeartbeats 1000000 in
theorem k_loaded (l : Launch) (h s : jH) (t w : Int) (hI : IC h s t) (hw9 : jr w) : cI l 156 [.ref 0, .int (jI w)] h (fun z h' => h' = h ∧ z = if w = 0 then s 388 48 else if w = 1 then s 388 49 else -1) := by
  have w1 := hw9.1
  have w2 := hw9.2
  obtain ⟨-, -, -, n1, n2, n3, n4, n5, n6, n7, n8, n9, n10, n11, n12, n13, n14, n15⟩ := hI
  refine cI.of rfl rfl ?_
  refine tl_iload_n rfl rfl ?_
  refine tl_if_ne (tgt := 14) rfl rfl ⟨by omega, by omega⟩ (fun c1 => ?_) (fun c1 => ?_)
  · skip
    refine tl_iload_n rfl rfl ?_
    refine tl_iconst rfl ?_
    refine tl_icmp_ne (tgt := 29) rfl rfl ⟨by omega, by omega⟩ ⟨by omega, by omega⟩ (fun c2 => ?_) (fun c2 => ?_)
    · skip
      refine tl_iconst rfl ?_
      show jT _ _ 30 _ _ _ _
      refine tl_iret rfl ?_
      -- leaf 0 at 30
      refine ⟨_, rfl, rfl, ?_⟩
      omega
    · show jT _ _ 19 _ _ _ _
      refine tl_aload_n rfl rfl ?_
      refine tl_getr (c := 11) (k9 := 14) (b := 356) rfl rfl rfl rfl ?_
      refine tl_geti (c := 1) (k9 := 5) rfl rfl rfl ?_
      refine tl_goto (tgt := 30) rfl rfl ?_
      refine tl_iret rfl ?_
      -- leaf 1 at 30
      refine ⟨_, rfl, rfl, ?_⟩
      omega
  · show jT _ _ 4 _ _ _ _
    refine tl_aload_n rfl rfl ?_
    show jT _ _ 5 _ _ _ _
    refine tl_getr (c := 11) (k9 := 14) (b := 356) rfl rfl rfl rfl ?_
    refine tl_geti (c := 1) (k9 := 4) rfl rfl rfl ?_
    refine tl_goto (tgt := 30) rfl rfl ?_
    refine tl_iret rfl ?_
    -- leaf 2 at 30
    refine ⟨_, rfl, rfl, ?_⟩
    omega
set_option maxRecDepth 20000 in
set_option maxHeartbeats 1000000 in
theorem r_loaded (l : Launch) (h : jH) (w : Int) (hw9 : jr w) : cI l 301 [.ref 388, .int (jI w)] h (fun z h' => h' = hs h 388 0 0 ∧ z = if w = 0 then h 388 48 else if w = 1 then h 388 49 else -1) := by
  have w1 := hw9.1
  have w2 := hw9.2
  have e1 : hs h 388 0 0 388 48 = h 388 48 := hs_k (by decide)
  have e2 : hs h 388 0 0 388 49 = h 388 49 := hs_k (by decide)
  refine cI.of rfl rfl ?_
  refine tl_aload_n rfl rfl ?_
  refine tl_iconst rfl ?_
  refine tl_puti (c := 12) (k9 := 0) rfl rfl rfl rfl ?_
  refine tl_iload_n rfl rfl ?_
  refine tl_if_ne (tgt := 16) rfl rfl ⟨by omega, by omega⟩ (fun c1 => ?_) (fun c1 => ?_)
  · skip
    refine tl_iload_n rfl rfl ?_
    show jT _ _ 17 _ _ _ _
    refine tl_iconst rfl ?_
    refine tl_icmp_ne (tgt := 28) rfl rfl ⟨by omega, by omega⟩ ⟨by omega, by omega⟩ (fun c2 => ?_) (fun c2 => ?_)
    · skip
      refine tl_iconst rfl ?_
      refine tl_iret rfl ?_
      -- leaf 0 at 29
      refine ⟨_, rfl, rfl, ?_⟩
      omega
    · show jT _ _ 21 _ _ _ _
      refine tl_aload_n rfl rfl ?_
      refine tl_geti (c := 12) (k9 := 49) rfl rfl rfl ?_
      refine tl_goto (tgt := 29) rfl rfl ?_
      show jT _ _ 29 _ _ _ _
      refine tl_iret rfl ?_
      -- leaf 1 at 29
      refine ⟨_, rfl, rfl, ?_⟩
      omega
  · show jT _ _ 9 _ _ _ _
    refine tl_aload_n rfl rfl ?_
    refine tl_geti (c := 12) (k9 := 48) rfl rfl rfl ?_
    refine tl_goto (tgt := 29) rfl rfl ?_
    refine tl_iret rfl ?_
    -- leaf 2 at 29
    refine ⟨_, rfl, rfl, ?_⟩
    omega
set_option maxRecDepth 20000 in
set_option maxHeartbeats 1000000 in
theorem k_runs (l : Launch) (h : jH) (R : Nat → Int) (hI : RS h 1 R) : cI l 116 [.ref 1] h (fun z h' => h' = h ∧ z = R 1167) := by
  obtain ⟨-, -, -, r1, r2, r3, r4, r5⟩ := hI
  have a1 := r2.1
  have a2 := r2.2
  have a3 := r3.1
  have a4 := r3.2
  refine cI.ofZ rfl rfl ?_
  refine tl_aload_n rfl rfl ?_
  refine tl_geti (c := 9) (k9 := 9) rfl rfl rfl ?_
  refine tl_aload_n rfl rfl ?_
  refine tl_geti (c := 9) (k9 := 8) rfl rfl rfl ?_
  refine tl_icmp_ge (tgt := 15) rfl rfl ⟨by omega, by omega⟩ ⟨by omega, by omega⟩ (fun c1 => ?_) (fun c1 => ?_)
  · skip
    refine tl_iconst rfl ?_
    show jT _ _ 16 _ _ _ _
    refine tl_iret rfl ?_
    -- leaf 0 at 16
    refine ⟨_, rfl, by omega, rfl, ?_⟩
    rcases r1 with r1 | r1
    · have := r4 r1
      omega
    · obtain ⟨b1, b2, b3, b4, b5, b6⟩ := r5 r1
      omega
  · show jT _ _ 11 _ _ _ _
    refine tl_iconst rfl ?_
    refine tl_goto (tgt := 16) rfl rfl ?_
    refine tl_iret rfl ?_
    -- leaf 1 at 16
    refine ⟨_, rfl, by omega, rfl, ?_⟩
    rcases r1 with r1 | r1
    · have := r4 r1
      omega
    · obtain ⟨b1, b2, b3, b4, b5, b6⟩ := r5 r1
      omega
set_option maxRecDepth 20000 in
set_option maxHeartbeats 1000000 in
theorem k_left (l : Launch) (h s : jH) (t : Int) (hI : IC h s t) : cI l 159 [.ref 0] h (fun z h' => h' = h ∧ z = if s 390 1167 = 1 then s 390 1168 - s 390 1169 else -1) := by
  have r1 := hI.1.2.2.2.1
  refine cI.of rfl rfl ?_
  refine tl_aload_n rfl rfl ?_
  refine tl_getr (c := 11) (k9 := 0) (b := 1) rfl rfl rfl rfl ?_
  refine tl_v0i (c9 := 9) (k_runs l _ _ hI.1) rfl rfl rfl rfl rfl (Nat.le_of_ble_eq_true rfl) (fun zr h1 q => ?_)
  obtain ⟨rfl, q⟩ := q
  refine tl_if_eq (tgt := 28) rfl rfl ⟨by omega, by omega⟩ (fun c1 => ?_) (fun c1 => ?_)
  · skip
    refine tl_iconst rfl ?_
    refine tl_iret rfl ?_
    -- leaf 0 at 29
    exact ⟨_, rfl, rfl, by rw [if_neg (by omega)]⟩
  · show jT _ _ 10 _ _ _ _
    show jT _ _ 10 _ _ _ _
    refine tl_aload_n rfl rfl ?_
    refine tl_getr (c := 11) (k9 := 0) (b := 1) rfl rfl rfl rfl ?_
    refine tl_geti (c := 9) (k9 := 8) rfl rfl rfl ?_
    refine tl_aload_n rfl rfl ?_
    refine tl_getr (c := 11) (k9 := 0) (b := 1) rfl rfl rfl rfl ?_
    refine tl_geti (c := 9) (k9 := 9) rfl rfl rfl ?_
    refine tl_isub rfl ?_
    show jT _ _ 25 _ _ _ _
    refine tl_goto (tgt := 29) rfl rfl ?_
    refine tl_iret rfl ?_
    -- leaf 1 at 29
    obtain ⟨b1, b2, b3, b4, b5, b6⟩ := hI.1.2.2.2.2.2.2.2 (by omega)
    exact ⟨_, rfl, rfl, by rw [if_pos (by omega), b4, b5]⟩
set_option maxRecDepth 20000 in
set_option maxHeartbeats 1000000 in
theorem r_left (l : Launch) (h : jH) (h0 : h 390 1167 = 0 ∨ h 390 1167 = 1) : cI l 312 [.ref 388] h (fun z h' => h' = hs h 388 0 0 ∧ z = if h 390 1167 = 1 then h 390 1168 - h 390 1169 else -1) := by
  have e := hz_o (h := h) (x := 390) (by decide)
  refine cI.of rfl rfl ?_
  refine tl_aload_n rfl rfl ?_
  refine tl_iconst rfl ?_
  refine tl_puti (c := 12) (k9 := 0) rfl rfl rfl rfl ?_
  refine tl_aload_n rfl rfl ?_
  refine tl_v0i (c9 := 12) (c_runsR l _ (by rw [e]; constructor <;> omega)) rfl rfl rfl rfl rfl (Nat.le_of_ble_eq_true rfl) (fun zr h1 q => ?_)
  obtain ⟨rfl, q⟩ := q
  rw [e] at q
  refine tl_if_eq (tgt := 32) rfl rfl ⟨by omega, by omega⟩ (fun c1 => ?_) (fun c1 => ?_)
  · skip
    show jT _ _ 32 _ _ _ _
    refine tl_iconst rfl ?_
    refine tl_iret rfl ?_
    -- leaf 0 at 33
    refine ⟨_, rfl, rfl, ?_⟩
    rw [if_neg]
    intro z9
    rw [if_pos z9] at q
    omega
  · show jT _ _ 12 _ _ _ _
    refine tl_aload_n rfl rfl ?_
    refine tl_getr (c := 12) (k9 := 3) (b := 390) rfl rfl rfl rfl ?_
    refine tl_sipush rfl rfl ?_
    refine tl_iald (n := 1362) rfl rfl rfl (by omega) (by omega) ?_
    rw [show Int.toNat 1168 = 1168 from rfl]
    refine tl_aload_n rfl rfl ?_
    show jT _ _ 21 _ _ _ _
    refine tl_getr (c := 12) (k9 := 3) (b := 390) rfl rfl rfl rfl ?_
    refine tl_sipush rfl rfl ?_
    refine tl_iald (n := 1362) rfl rfl rfl (by omega) (by omega) ?_
    rw [show Int.toNat 1169 = 1169 from rfl]
    refine tl_isub rfl ?_
    refine tl_goto (tgt := 33) rfl rfl ?_
    refine tl_iret rfl ?_
    -- leaf 1 at 33
    refine ⟨_, rfl, rfl, ?_⟩
    rw [e, if_pos]
    rcases h0 with z9 | z9
    · rw [z9, if_neg (by decide)] at q
      omega
    · exact z9
