/-! Row.countAlike -/
def alk (f g : Nat → Int) : Nat → Int
  | 0 => 0
  | n + 1 => alk f g n + if f n = g n then 1 else 0
theorem alk_b (f g : Nat → Int) : ∀ n, 0 ≤ alk f g n ∧ alk f g n ≤ n := by
  intro n
  induction n with
  | zero => exact ⟨Int.le_refl _, Int.le_refl _⟩
  | succ n ih => rw [alk]; split <;> omega
theorem alk_congr {f g f' g' : Nat → Int} : ∀ n, (∀ i, i < n → f i = f' i ∧ g i = g' i) → alk f g n = alk f' g' n := by
  intro n
  induction n with
  | zero => intro _; rfl
  | succ n ih => intro h; rw [alk, alk, ih (fun i hi => h i (by omega)), (h n (by omega)).1, (h n (by omega)).2]
set_option maxRecDepth 20000 in
set_option maxHeartbeats 1000000 in
theorem c_Row_alike_lp (l : Launch) {r a n r2 a2 n2 : Nat} (hS : RowS r a n) (hS2 : RowS r2 a2 n2) (h : jH) (h0 : 0 ≤ h r 1) (h1 : h r 1 ≤ (n : Int)) (h2 : 0 ≤ h r2 1) (h3 : h r2 1 ≤ (n2 : Int)) (hb : ∀ i : Nat, (i : Int) < h r 1 → jr (h a i)) (hb2 : ∀ i : Nat, (i : Int) < h r2 1 → jr (h a2 i)) (P : Option Value → jH → Prop) (hP : P (some (.int (jI (alk (h a) (h a2) (min (h r 1) (h r2 1)).toNat)))) h) : ∀ (m k : Nat), (min (h r 1) (h r2 1)).toNat - k < m → k ≤ (min (h r 1) (h r2 1)).toNat → jT l 109 4 [some (.ref r), some (.ref r2), some (.int (jI (alk (h a) (h a2) k))), some (.int (jI (k : Int)))] [] h P := by
  have hle := hS.le
  have hle2 := hS2.le
  intro m
  induction m with
  | zero => intro k hk; omega
  | succ m ih =>
    intro k hk hkK
    refine tl_iload_n rfl rfl ?_
    refine tl_aload_n rfl rfl ?_
    refine tl_geti (c := 8) (k9 := 1) rfl hS.1 rfl ?_
    refine tl_icmp_ge (tgt := 44) rfl rfl ⟨by omega, by omega⟩ ⟨by omega, by omega⟩ (fun c1 => ?_) (fun c1 => ?_)
    · skip
      refine tl_iload_n rfl rfl ?_
      refine tl_iret rfl ?_
      -- leaf 0 at 45
      have e : k = (min (h r 1) (h r2 1)).toNat := by omega
      rw [e]
      exact hP
    · show jT _ _ 12 _ _ _ _
      show jT _ _ 12 _ _ _ _
      refine tl_iload_n rfl rfl ?_
      refine tl_aload_n rfl rfl ?_
      refine tl_geti (c := 8) (k9 := 1) rfl hS2.1 rfl ?_
      refine tl_icmp_ge (tgt := 44) rfl rfl ⟨by omega, by omega⟩ ⟨by omega, by omega⟩ (fun c2 => ?_) (fun c2 => ?_)
      · skip
        refine tl_iload_n rfl rfl ?_
        refine tl_iret rfl ?_
        -- leaf 1 at 45
        have e : k = (min (h r 1) (h r2 1)).toNat := by omega
        rw [e]
        exact hP
      · show jT _ _ 20 _ _ _ _
        refine tl_aload_n rfl rfl ?_
        show jT _ _ 21 _ _ _ _
        refine tl_getr (c := 8) (k9 := 0) rfl hS.1 rfl hS.2.1 ?_
        refine tl_iload_n rfl rfl ?_
        refine tl_iald rfl hS.2.2.1 hS.2.2.2 (by omega) (by omega) ?_
        rw [Int.toNat_natCast]
        have g1 := (hb k (by omega)).1
        have g2 := (hb k (by omega)).2
        refine tl_aload_n rfl rfl ?_
        refine tl_getr (c := 8) (k9 := 0) rfl hS2.1 rfl hS2.2.1 ?_
        refine tl_iload_n rfl rfl ?_
        refine tl_iald rfl hS2.2.2.1 hS2.2.2.2 (by omega) (by omega) ?_
        rw [Int.toNat_natCast]
        have g3 := (hb2 k (by omega)).1
        have g4 := (hb2 k (by omega)).2
        show jT _ _ 32 _ _ _ _
        refine tl_icmp_ne (tgt := 38) rfl rfl ⟨by omega, by omega⟩ ⟨by omega, by omega⟩ (fun c3 => ?_) (fun c3 => ?_)
        · skip
          refine tl_iinc rfl rfl rfl ?_
          refine tl_goto (tgt := 4) rfl rfl ?_
          show jT _ _ 4 _ _ _ _
          -- leaf 2 at 4
          first
            | (have e : alk (h a) (h a2) (k + 1) = alk (h a) (h a2) k := by rw [alk, if_neg (by omega)]; omega
               have := ih (k + 1) (by omega) (by omega)
               rw [e] at this
               exact this)
            | (have e : alk (h a) (h a2) (k + 1) = alk (h a) (h a2) k + 1 := by rw [alk, if_pos (by omega)]
               have := ih (k + 1) (by omega) (by omega)
               rw [e] at this
               exact this)
        · show jT _ _ 35 _ _ _ _
          refine tl_iinc rfl rfl rfl ?_
          refine tl_iinc rfl rfl rfl ?_
          refine tl_goto (tgt := 4) rfl rfl ?_
          show jT _ _ 4 _ _ _ _
          -- leaf 3 at 4
          first
            | (have e : alk (h a) (h a2) (k + 1) = alk (h a) (h a2) k := by rw [alk, if_neg (by omega)]; omega
               have := ih (k + 1) (by omega) (by omega)
               rw [e] at this
               exact this)
            | (have e : alk (h a) (h a2) (k + 1) = alk (h a) (h a2) k + 1 := by rw [alk, if_pos (by omega)]
               have := ih (k + 1) (by omega) (by omega)
               rw [e] at this
               exact this)
set_option maxRecDepth 20000 in
set_option maxHeartbeats 1000000 in
theorem c_Row_alike (l : Launch) {r a n r2 a2 n2 : Nat} (hS : RowS r a n) (hS2 : RowS r2 a2 n2) (h : jH) (h0 : 0 ≤ h r 1) (h1 : h r 1 ≤ (n : Int)) (h2 : 0 ≤ h r2 1) (h3 : h r2 1 ≤ (n2 : Int)) (hb : ∀ i : Nat, (i : Int) < h r 1 → jr (h a i)) (hb2 : ∀ i : Nat, (i : Int) < h r2 1 → jr (h a2 i)) : cI l 109 [.ref r, .ref r2] h (fun z h' => h' = h ∧ z = alk (h a) (h a2) (min (h r 1) (h r2 1)).toNat) := by
  refine cI.of rfl rfl ?_
  refine tl_iconst rfl ?_
  refine tl_istore_n rfl (Nat.le_of_ble_eq_true rfl) rfl ?_
  refine tl_iconst rfl ?_
  refine tl_istore_n rfl (Nat.le_of_ble_eq_true rfl) rfl ?_
  show jT _ _ 4 _ _ _ _
  -- leaf 0 at 4
  exact c_Row_alike_lp l hS hS2 h h0 h1 h2 h3 hb hb2 _ ⟨_, rfl, rfl, rfl⟩ _ 0 (Nat.lt_succ_self _) (Nat.zero_le _)
