
/-! Row: a row of numbers with a limit -/
theorem hs_o {h : jH} {i k a b : Nat} {z : Int} (hne : a ≠ i) : hs h i k z a b = h a b := by simp [hs, hne]
theorem hs_s {h : jH} {i k : Nat} {z : Int} : hs h i k z i k = z := by simp [hs]
theorem hs_k {h : jH} {i k b : Nat} {z : Int} (hne : b ≠ k) : hs h i k z i b = h i b := by simp [hs, hne]
theorem hw_o {h : jH} {i a : Nat} {f : Nat → Int} (hne : a ≠ i) : hw h i f a = h a := by simp [hw, hne]
theorem hw_s {h : jH} {i : Nat} {f : Nat → Int} : hw h i f i = f := by simp [hw]
def RowS (r a n : Nat) : Prop := sk r = 8 ∧ sr r 0 = a ∧ sk a = 13 ∧ sl a = n
theorem RowS.ne {r a n : Nat} (hS : RowS r a n) : r ≠ a := fun e => by have := hS.1; have h2 := hS.2.2.1; rw [e] at this; omega
theorem RowS.le {r a n : Nat} (hS : RowS r a n) : n ≤ 60000 := by have := sl_le a; rw [hS.2.2.2] at this; exact this
set_option maxRecDepth 20000 in
set_option maxHeartbeats 1000000 in
/-- get(i): what stands at i, or -1 -/
theorem c_Row_get (l : Launch) {r a n : Nat} (hS : RowS r a n) (h : jH) (i : Int) (h0 : 0 ≤ h r 1) (h1 : h r 1 ≤ (n : Int)) (hi : jr i) : cI l 99 [.ref r, .int (jI i)] h (fun z h' => h' = h ∧ z = if 0 ≤ i ∧ i < h r 1 then h a i.toNat else -1) := by
  have hn := hS.le
  have hi1 := hi.1
  have hi2 := hi.2
  refine cI.of rfl rfl ?_
  refine tl_iload_n rfl rfl ?_
  refine tl_if_lt (tgt := 21) rfl rfl ⟨by omega, by omega⟩ (fun c1 => ?_) (fun c1 => ?_)
  · skip
    refine tl_iconst rfl ?_
    refine tl_goto (tgt := 31) rfl rfl ?_
    refine tl_iret rfl ?_
    -- leaf 0 at 31
    exact ⟨_, rfl, rfl, by rw [if_neg (by omega)]⟩
  · show jT _ _ 4 _ _ _ _
    refine tl_iload_n rfl rfl ?_
    show jT _ _ 5 _ _ _ _
    refine tl_aload_n rfl rfl ?_
    refine tl_geti (c := 8) (k9 := 1) rfl hS.1 rfl ?_
    refine tl_icmp_ge (tgt := 21) rfl rfl ⟨by omega, by omega⟩ ⟨by omega, by omega⟩ (fun c2 => ?_) (fun c2 => ?_)
    · skip
      refine tl_iconst rfl ?_
      refine tl_goto (tgt := 31) rfl rfl ?_
      refine tl_iret rfl ?_
      -- leaf 1 at 31
      exact ⟨_, rfl, rfl, by rw [if_neg (by omega)]⟩
    · show jT _ _ 12 _ _ _ _
      refine tl_iload_n rfl rfl ?_
      show jT _ _ 13 _ _ _ _
      refine tl_aload_n rfl rfl ?_
      refine tl_getr (c := 8) (k9 := 0) rfl hS.1 rfl hS.2.1 ?_
      refine tl_alen rfl (Or.inl hS.2.2.1) hS.2.2.2 ?_
      refine tl_icmp_lt (tgt := 25) rfl rfl ⟨by omega, by omega⟩ ⟨by omega, by omega⟩ (fun c3 => ?_) (fun c3 => ?_)
      · skip
        refine tl_aload_n rfl rfl ?_
        refine tl_getr (c := 8) (k9 := 0) rfl hS.1 rfl hS.2.1 ?_
        refine tl_iload_n rfl rfl ?_
        show jT _ _ 30 _ _ _ _
        refine tl_iald rfl hS.2.2.1 hS.2.2.2 (by omega) (by omega) ?_
        refine tl_iret rfl ?_
        -- leaf 2 at 31
        exact ⟨_, rfl, rfl, by rw [if_pos ⟨by omega, by omega⟩]⟩
      · show jT _ _ 21 _ _ _ _
        refine tl_iconst rfl ?_
        refine tl_goto (tgt := 31) rfl rfl ?_
        refine tl_iret rfl ?_
        -- leaf 3 at 31
        exact ⟨_, rfl, rfl, by rw [if_neg (by omega)]⟩
set_option maxRecDepth 20000 in
set_option maxHeartbeats 1000000 in
/-- add(x): x comes behind the last, if there is room -/
theorem c_Row_add (l : Launch) {r a n : Nat} (hS : RowS r a n) (h : jH) (x : Int) (h0 : 0 ≤ h r 1) (h1 : h r 1 ≤ (n : Int)) : cV l 100 [.ref r, .int (jI x)] h (fun h' => h' = if h r 1 < (n : Int) then hs (hs h a (h r 1).toNat x) r 1 (h r 1 + 1) else h) := by
  have hn := hS.le
  have hne := hS.ne
  refine cV.of rfl rfl ?_
  refine tl_aload_n rfl rfl ?_
  refine tl_geti (c := 8) (k9 := 1) rfl hS.1 rfl ?_
  refine tl_if_lt (tgt := 39) rfl rfl ⟨by omega, by omega⟩ (fun c1 => ?_) (fun c1 => ?_)
  · skip
    refine tl_ret rfl ?_
    -- leaf 0 at 39
    exact absurd c1 (by omega)
  · show jT _ _ 7 _ _ _ _
    refine tl_aload_n rfl rfl ?_
    refine tl_geti (c := 8) (k9 := 1) rfl hS.1 rfl ?_
    show jT _ _ 11 _ _ _ _
    refine tl_aload_n rfl rfl ?_
    refine tl_getr (c := 8) (k9 := 0) rfl hS.1 rfl hS.2.1 ?_
    refine tl_alen rfl (Or.inl hS.2.2.1) hS.2.2.2 ?_
    refine tl_icmp_ge (tgt := 39) rfl rfl ⟨by omega, by omega⟩ ⟨by omega, by omega⟩ (fun c2 => ?_) (fun c2 => ?_)
    · skip
      refine tl_ret rfl ?_
      -- leaf 1 at 39
      exact ⟨rfl, by rw [if_neg (by omega)]⟩
    · show jT _ _ 19 _ _ _ _
      refine tl_aload_n rfl rfl ?_
      refine tl_getr (c := 8) (k9 := 0) rfl hS.1 rfl hS.2.1 ?_
      show jT _ _ 23 _ _ _ _
      refine tl_aload_n rfl rfl ?_
      refine tl_geti (c := 8) (k9 := 1) rfl hS.1 rfl ?_
      refine tl_iload_n rfl rfl ?_
      refine tl_iast rfl hS.2.2.1 hS.2.2.2 (by omega) (by omega) ?_
      refine tl_aload_n rfl rfl ?_
      refine tl_dup rfl rfl ?_
      refine tl_geti (c := 8) (k9 := 1) rfl hS.1 rfl ?_
      rw [hs_o hne]
      show jT _ _ 34 _ _ _ _
      refine tl_iconst rfl ?_
      refine tl_iadd rfl ?_
      refine tl_puti (c := 8) (k9 := 1) rfl rfl hS.1 rfl ?_
      refine tl_ret rfl ?_
      -- leaf 2 at 39
      exact ⟨rfl, by rw [if_pos (by omega)]⟩
set_option maxRecDepth 20000 in
set_option maxHeartbeats 1000000 in
/-- change(i, x): x at i, if i is one of them -/
theorem c_Row_change (l : Launch) {r a n : Nat} (hS : RowS r a n) (h : jH) (i x : Int) (h0 : 0 ≤ h r 1) (h1 : h r 1 ≤ (n : Int)) (hi : jr i) : cV l 103 [.ref r, .int (jI i), .int (jI x)] h (fun h' => h' = if 0 ≤ i ∧ i < h r 1 then hs h a i.toNat x else h) := by
  have hn := hS.le
  have hi1 := hi.1
  have hi2 := hi.2
  refine cV.of rfl rfl ?_
  refine tl_iload_n rfl rfl ?_
  refine tl_if_lt (tgt := 28) rfl rfl ⟨by omega, by omega⟩ (fun c1 => ?_) (fun c1 => ?_)
  · skip
    refine tl_ret rfl ?_
    -- leaf 0 at 28
    exact ⟨rfl, by rw [if_neg (by omega)]⟩
  · show jT _ _ 4 _ _ _ _
    refine tl_iload_n rfl rfl ?_
    refine tl_aload_n rfl rfl ?_
    refine tl_geti (c := 8) (k9 := 1) rfl hS.1 rfl ?_
    show jT _ _ 9 _ _ _ _
    refine tl_icmp_ge (tgt := 28) rfl rfl ⟨by omega, by omega⟩ ⟨by omega, by omega⟩ (fun c2 => ?_) (fun c2 => ?_)
    · skip
      refine tl_ret rfl ?_
      -- leaf 1 at 28
      exact ⟨rfl, by rw [if_neg (by omega)]⟩
    · show jT _ _ 12 _ _ _ _
      refine tl_iload_n rfl rfl ?_
      refine tl_aload_n rfl rfl ?_
      refine tl_getr (c := 8) (k9 := 0) rfl hS.1 rfl hS.2.1 ?_
      refine tl_alen rfl (Or.inl hS.2.2.1) hS.2.2.2 ?_
      refine tl_icmp_ge (tgt := 28) rfl rfl ⟨by omega, by omega⟩ ⟨by omega, by omega⟩ (fun c3 => ?_) (fun c3 => ?_)
      · skip
        show jT _ _ 28 _ _ _ _
        refine tl_ret rfl ?_
        -- leaf 2 at 28
        exact ⟨rfl, by rw [if_neg (by omega)]⟩
      · show jT _ _ 21 _ _ _ _
        refine tl_aload_n rfl rfl ?_
        refine tl_getr (c := 8) (k9 := 0) rfl hS.1 rfl hS.2.1 ?_
        refine tl_iload_n rfl rfl ?_
        refine tl_iload_n rfl rfl ?_
        refine tl_iast rfl hS.2.2.1 hS.2.2.2 (by omega) (by omega) ?_
        refine tl_ret rfl ?_
        -- leaf 3 at 28
        exact ⟨rfl, by rw [if_pos ⟨by omega, by omega⟩]⟩
set_option maxRecDepth 20000 in
set_option maxHeartbeats 1000000 in
theorem c_min (l : Launch) (h : jH) (x y : Int) (hx : jr x) (hy : jr y) : cI l 358 [.int (jI x), .int (jI y)] h (fun z h' => h' = h ∧ z = min x y) := by
  have hx1 := hx.1
  have hx2 := hx.2
  have hy1 := hy.1
  have hy2 := hy.2
  refine cI.of rfl rfl ?_
  refine tl_iload_n rfl rfl ?_
  refine tl_iload_n rfl rfl ?_
  refine tl_icmp_gt (tgt := 9) rfl rfl ⟨by omega, by omega⟩ ⟨by omega, by omega⟩ (fun c1 => ?_) (fun c1 => ?_)
  · skip
    refine tl_iload_n rfl rfl ?_
    refine tl_iret rfl ?_
    -- leaf 0 at 10
    exact ⟨_, rfl, rfl, by omega⟩
  · show jT _ _ 5 _ _ _ _
    refine tl_iload_n rfl rfl ?_
    show jT _ _ 6 _ _ _ _
    refine tl_goto (tgt := 10) rfl rfl ?_
    refine tl_iret rfl ?_
    -- leaf 1 at 10
    exact ⟨_, rfl, rfl, by omega⟩
set_option maxRecDepth 20000 in
set_option maxHeartbeats 1000000 in
theorem c_max (l : Launch) (h : jH) (x y : Int) (hx : jr x) (hy : jr y) : cI l 357 [.int (jI x), .int (jI y)] h (fun z h' => h' = h ∧ z = max x y) := by
  have hx1 := hx.1
  have hx2 := hx.2
  have hy1 := hy.1
  have hy2 := hy.2
  refine cI.of rfl rfl ?_
  refine tl_iload_n rfl rfl ?_
  refine tl_iload_n rfl rfl ?_
  refine tl_icmp_lt (tgt := 9) rfl rfl ⟨by omega, by omega⟩ ⟨by omega, by omega⟩ (fun c1 => ?_) (fun c1 => ?_)
  · skip
    refine tl_iload_n rfl rfl ?_
    refine tl_iret rfl ?_
    -- leaf 0 at 10
    exact ⟨_, rfl, rfl, by omega⟩
  · show jT _ _ 5 _ _ _ _
    refine tl_iload_n rfl rfl ?_
    show jT _ _ 6 _ _ _ _
    refine tl_goto (tgt := 10) rfl rfl ?_
    refine tl_iret rfl ?_
    -- leaf 1 at 10
    exact ⟨_, rfl, rfl, by omega⟩
/-- CHECK of the first k numbers -/
def ckF (f : Nat → Int) : Nat → Int
  | 0 => 1
  | k + 1 => (3 * ckF f k + f k) % 257
theorem ckF_b (f : Nat → Int) : ∀ k, 0 ≤ ckF f k ∧ ckF f k < 257 := by
  intro k
  cases k with
  | zero => exact ⟨by show (0 : Int) ≤ 1; omega, by show (1 : Int) < 257; omega⟩
  | succ k => exact ⟨Int.emod_nonneg _ (by omega), Int.emod_lt_of_pos _ (by omega)⟩
theorem ckF_congr {f g : Nat → Int} : ∀ k, (∀ i, i < k → f i = g i) → ckF f k = ckF g k := by
  intro k
  induction k with
  | zero => intro _; rfl
  | succ k ih => intro e; rw [ckF, ckF, ih (fun i hi => e i (by omega)), e k (by omega)]
set_option maxRecDepth 20000 in
set_option maxHeartbeats 1000000 in
theorem c_Row_check_lp (l : Launch) {r a n : Nat} (hS : RowS r a n) (h : jH) (u : Int) (hu : jr u) (h0 : 0 ≤ h r 1) (h1 : h r 1 ≤ (n : Int)) (hb : ∀ i : Nat, (i : Int) < h r 1 → 0 ≤ h a i ∧ h a i < 100000) (K : Nat) (hK : K = min u.toNat (h r 1).toNat) (P : Option Value → jH → Prop) (hP : P (some (.int (jI (ckF (h a) K)))) h) : ∀ (m k : Nat), K - k < m → k ≤ K → jT l 107 4 [some (.ref r), some (.int (jI u)), some (.int (jI (ckF (h a) k))), some (.int (jI (k : Int)))] [] h P := by
  intro m
  induction m with
  | zero => intro k hk; omega
  | succ m ih =>
    intro k hk hkK
    have hn := hS.le
    have hu1 := hu.1
    have hu2 := hu.2
    have cb := ckF_b (h a) k
    refine tl_iload_n rfl rfl ?_
    refine tl_iload_n rfl rfl ?_
    refine tl_icmp_ge (tgt := 38) rfl rfl ⟨by omega, by omega⟩ ⟨by omega, by omega⟩ (fun c1 => ?_) (fun c1 => ?_)
    · skip
      refine tl_iload_n rfl rfl ?_
      refine tl_iret rfl ?_
      -- leaf 0 at 39
      have e : k = K := by omega
      subst e
      exact hP
    · show jT _ _ 9 _ _ _ _
      refine tl_iload_n rfl rfl ?_
      show jT _ _ 10 _ _ _ _
      refine tl_aload_n rfl rfl ?_
      refine tl_geti (c := 8) (k9 := 1) rfl hS.1 rfl ?_
      refine tl_icmp_ge (tgt := 38) rfl rfl ⟨by omega, by omega⟩ ⟨by omega, by omega⟩ (fun c2 => ?_) (fun c2 => ?_)
      · skip
        refine tl_iload_n rfl rfl ?_
        refine tl_iret rfl ?_
        -- leaf 1 at 39
        have e : k = K := by omega
        subst e
        exact hP
      · show jT _ _ 17 _ _ _ _
        refine tl_iconst rfl ?_
        refine tl_iload_n rfl rfl ?_
        show jT _ _ 19 _ _ _ _
        refine tl_imul rfl ?_
        refine tl_aload_n rfl rfl ?_
        refine tl_getr (c := 8) (k9 := 0) rfl hS.1 rfl hS.2.1 ?_
        refine tl_iload_n rfl rfl ?_
        refine tl_iald rfl hS.2.2.1 hS.2.2.2 (by omega) (by omega) ?_
        rw [Int.toNat_natCast]
        have hbk := hb k (by omega)
        refine tl_iadd rfl ?_
        refine tl_sipush rfl rfl ?_
        show jT _ _ 30 _ _ _ _
        refine tl_irem rfl (by omega) (by omega) (by omega) (by omega) ?_
        refine tl_istore_n rfl (Nat.le_of_ble_eq_true rfl) rfl ?_
        refine tl_iinc rfl rfl rfl ?_
        refine tl_goto (tgt := 4) rfl rfl ?_
        show jT _ _ 4 _ _ _ _
        -- leaf 2 at 4
        exact ih (k + 1) (by omega) (by omega)
set_option maxRecDepth 20000 in
set_option maxHeartbeats 1000000 in
/-- check(u): CHECK of the first u (of all, if there are fewer) -/
theorem c_Row_check (l : Launch) {r a n : Nat} (hS : RowS r a n) (h : jH) (u : Int) (hu : jr u) (h0 : 0 ≤ h r 1) (h1 : h r 1 ≤ (n : Int)) (hb : ∀ i : Nat, (i : Int) < h r 1 → 0 ≤ h a i ∧ h a i < 100000) : cI l 107 [.ref r, .int (jI u)] h (fun z h' => h' = h ∧ z = ckF (h a) (min u.toNat (h r 1).toNat)) := by
  refine cI.of rfl rfl ?_
  refine tl_iconst rfl ?_
  refine tl_istore_n rfl (Nat.le_of_ble_eq_true rfl) rfl ?_
  refine tl_iconst rfl ?_
  refine tl_istore_n rfl (Nat.le_of_ble_eq_true rfl) rfl ?_
  show jT _ _ 4 _ _ _ _
  -- leaf 0 at 4
  exact c_Row_check_lp l hS h u hu h0 h1 hb _ rfl _ ⟨_, rfl, rfl, rfl⟩ _ 0 (Nat.lt_succ_self _) (Nat.zero_le _)
set_option maxRecDepth 20000 in
set_option maxHeartbeats 1000000 in
theorem c_Row_checkAll (l : Launch) {r a n : Nat} (hS : RowS r a n) (h : jH) (h0 : 0 ≤ h r 1) (h1 : h r 1 ≤ (n : Int)) (hb : ∀ i : Nat, (i : Int) < h r 1 → 0 ≤ h a i ∧ h a i < 100000) : cI l 108 [.ref r] h (fun z h' => h' = h ∧ z = ckF (h a) (h r 1).toNat) := by
  have hn := hS.le
  refine cI.of rfl rfl ?_
  refine tl_aload_n rfl rfl ?_
  refine tl_aload_n rfl rfl ?_
  refine tl_geti (c := 8) (k9 := 1) rfl hS.1 rfl ?_
  refine tl_v1i (c9 := 8) (c_Row_check l hS h _ ⟨by omega, by omega⟩ h0 h1 hb) rfl rfl rfl hS.1 rfl (Nat.le_of_ble_eq_true rfl) (fun z h2 hq => ?_)
  obtain ⟨rfl, rfl⟩ := hq
  rw [Nat.min_self]
  refine tl_iret rfl ?_
  -- leaf 0 at 8
  exact ⟨_, rfl, rfl, rfl⟩
set_option maxRecDepth 20000 in
set_option maxHeartbeats 1000000 in
/-- copy(other): what the other has, as far as there is room -/
theorem c_Row_copy (l : Launch) {r a n r2 a2 n2 : Nat} (hS : RowS r a n) (hS2 : RowS r2 a2 n2) (h : jH) (h0 : 0 ≤ h r2 1) (h1 : h r2 1 ≤ (n2 : Int)) : cV l 106 [.ref r, .ref r2] h (fun h' => h' = hw (hs h r 1 (min (h r2 1) n)) a (va_cpy (h a2) (h a) 0 0 (min (h r2 1) (n : Int)).toNat)) := by
  have hn := hS.le
  have hn2 := hS2.le
  have hne := hS.ne
  have hne2 : a2 ≠ r := fun e => by have := hS2.2.2.1; rw [e, hS.1] at this; omega
  have hne3 : a ≠ r := hne.symm
  refine cV.of rfl rfl ?_
  refine tl_aload_n rfl rfl ?_
  refine tl_aload_n rfl rfl ?_
  refine tl_geti (c := 8) (k9 := 1) rfl hS2.1 rfl ?_
  refine tl_aload_n rfl rfl ?_
  refine tl_getr (c := 8) (k9 := 0) rfl hS.1 rfl hS.2.1 ?_
  refine tl_alen rfl (Or.inl hS.2.2.1) hS.2.2.2 ?_
  show jT _ _ 10 _ _ _ _
  refine tl_s2i (c_min l h _ _ ⟨by omega, by omega⟩ ⟨by omega, by omega⟩) rfl rfl rfl (Nat.le_of_ble_eq_true rfl) (fun z h2 hq => ?_)
  obtain ⟨rfl, rfl⟩ := hq
  refine tl_puti (c := 8) (k9 := 1) rfl rfl hS.1 rfl ?_
  refine tl_aload_n rfl rfl ?_
  refine tl_getr (c := 8) (k9 := 0) rfl hS2.1 rfl hS2.2.1 ?_
  refine tl_iconst rfl ?_
  refine tl_aload_n rfl rfl ?_
  refine tl_getr (c := 8) (k9 := 0) rfl hS.1 rfl hS.2.1 ?_
  show jT _ _ 25 _ _ _ _
  refine tl_iconst rfl ?_
  refine tl_aload_n rfl rfl ?_
  refine tl_geti (c := 8) (k9 := 1) rfl hS.1 rfl ?_
  rw [hs_s]
  refine tl_copy rfl hS2.2.2.1 hS.2.2.1 hS2.2.2.2 hS.2.2.2 (by omega) (by omega) (by omega) (by omega) (by omega) (Nat.le_of_ble_eq_true rfl) rfl ?_
  refine tl_ret rfl ?_
  -- leaf 0 at 33
  refine ⟨rfl, ?_⟩
  have e1 : hs h2 r 1 (min (h2 r2 1) (n : Int)) a2 = h2 a2 := by funext q; exact hs_o hne2
  have e2 : hs h2 r 1 (min (h2 r2 1) (n : Int)) a = h2 a := by funext q; exact hs_o hne3
  rw [e1, e2]
  rfl
