/-! refuse, accept; the reference's remember -/
theorem hw_hs {h : jH} {a k : Nat} {z : Int} {f : Nat → Int} : hs (hw h a f) a k z = hw h a (fun i => if i = k then z else f i) := by
  funext p q
  simp only [hs, hw]
  by_cases hp : p = a
  · subst hp; simp
  · simp [hp]
theorem hw_hw {h : jH} {a : Nat} {f g : Nat → Int} : hw (hw h a f) a g = hw h a g := by
  funext p
  simp only [hw]
  by_cases hp : p = a <;> simp [hp]
theorem hw_self {h : jH} {a : Nat} : hw h a (h a) = h := by
  funext p
  simp only [hw]
  by_cases hp : p = a
  · subst hp; simp
  · simp [hp]
theorem hs_hw_o {h : jH} {a b k : Nat} {z : Int} {f : Nat → Int} (hne : a ≠ b) : hs (hw h a f) b k z = hw (hs h b k z) a f := by
  funext p q
  simp only [hs, hw]
  by_cases hp : p = a
  · subst hp; simp [hne]
  · simp [hp, hs]
theorem cpy_0 {f g : Nat → Int} {sp dp : Nat} : va_cpy f g sp dp 0 = g := by
  funext i
  rw [va_cpy, if_neg (by omega)]
theorem cpy_s {f g : Nat → Int} {sp dp n : Nat} : (fun i => if i = dp + n then f (sp + n) else va_cpy f g sp dp n i) = va_cpy f g sp dp (n + 1) := by
  funext i
  simp only [va_cpy]
  by_cases h1 : i = dp + n
  · subst h1
    rw [if_pos rfl, if_pos (by omega)]
    congr 1
    omega
  · rw [if_neg h1]
    by_cases h2 : dp ≤ i ∧ i < dp + n
    · rw [if_pos h2, if_pos (by omega)]
    · rw [if_neg h2, if_neg (by omega)]
/-- the first k moved down by d -/
def sft (u : Nat → Int) (d k : Nat) : Nat → Int := fun i => if i < k then u (i + d) else u i
theorem sft_0 {u : Nat → Int} {d : Nat} : sft u d 0 = u := by funext i; rw [sft, if_neg (by omega)]
theorem sft_s {u : Nat → Int} {d k : Nat} (hd : 0 < d) : (fun i => if i = k then sft u d k (k + d) else sft u d k i) = sft u d (k + 1) := by
  funext i
  simp only [sft]
  by_cases h1 : i = k
  · subst h1
    rw [if_pos rfl, if_neg (by omega), if_pos (by omega)]
  · rw [if_neg h1]
    by_cases h2 : i < k
    · rw [if_pos h2, if_pos (by omega)]
    · rw [if_neg h2, if_neg (by omega)]
set_option maxRecDepth 20000 in
set_option maxHeartbeats 1000000 in
theorem k_refuse (l : Launch) (h : jH) (v : Int) (v1 : -6 ≤ v) (v2 : v ≤ -1) : cI l 192 [.ref 0, .int (jI v)] h (fun r h' => r = v ∧ h' = hs (hs h 0 8 v) 312 (-1 - v).toNat (h 312 (-1 - v).toNat + 1)) := by
  refine cI.of rfl rfl ?_
  refine tl_aload_n rfl rfl ?_
  refine tl_iload_n rfl rfl ?_
  refine tl_puti (c := 11) (k9 := 8) rfl rfl rfl rfl ?_
  refine tl_iconst rfl ?_
  refine tl_iload_n rfl rfl ?_
  refine tl_isub rfl ?_
  show jT _ _ 8 _ _ _ _
  refine tl_istore_n rfl (Nat.le_of_ble_eq_true rfl) rfl ?_
  refine tl_iload_n rfl rfl ?_
  refine tl_if_lt (tgt := 29) rfl rfl ⟨by omega, by omega⟩ (fun c1 => ?_) (fun c1 => ?_)
  · skip
    refine tl_iload_n rfl rfl ?_
    refine tl_iret rfl ?_
    -- leaf 0 at 30
    first
      | (exfalso; omega)
      | exact ⟨_, rfl, rfl, by rw [hs_o (show (312 : Nat) ≠ 0 by decide)]⟩
  · show jT _ _ 13 _ _ _ _
    refine tl_iload_n rfl rfl ?_
    refine tl_bipush rfl rfl ?_
    show jT _ _ 16 _ _ _ _
    refine tl_icmp_ge (tgt := 29) rfl rfl ⟨by omega, by omega⟩ ⟨by omega, by omega⟩ (fun c2 => ?_) (fun c2 => ?_)
    · skip
      refine tl_iload_n rfl rfl ?_
      refine tl_iret rfl ?_
      -- leaf 1 at 30
      first
        | (exfalso; omega)
        | exact ⟨_, rfl, rfl, by rw [hs_o (show (312 : Nat) ≠ 0 by decide)]⟩
    · show jT _ _ 19 _ _ _ _
      refine tl_aload_n rfl rfl ?_
      refine tl_getr (c := 11) (k9 := 7) (b := 312) rfl rfl rfl rfl ?_
      refine tl_iload_n rfl rfl ?_
      refine tl_dup2 rfl rfl rfl ?_
      show jT _ _ 25 _ _ _ _
      refine tl_iald (n := 6) rfl rfl rfl (by omega) (by omega) ?_
      refine tl_iconst rfl ?_
      refine tl_iadd rfl ?_
      refine tl_iast (n := 6) rfl rfl rfl (by omega) (by omega) ?_
      refine tl_iload_n rfl rfl ?_
      refine tl_iret rfl ?_
      -- leaf 2 at 30
      first
        | (exfalso; omega)
        | exact ⟨_, rfl, rfl, by rw [hs_o (show (312 : Nat) ≠ 0 by decide)]⟩
set_option maxRecDepth 20000 in
set_option maxHeartbeats 1000000 in
theorem k_accept (l : Launch) (h : jH) (v : Int) : cI l 193 [.ref 0, .int (jI v)] h (fun r h' => r = v ∧ h' = hs h 0 8 0) := by
  refine cI.of rfl rfl ?_
  refine tl_aload_n rfl rfl ?_
  refine tl_iconst rfl ?_
  refine tl_puti (c := 11) (k9 := 8) rfl rfl rfl rfl ?_
  refine tl_iload_n rfl rfl ?_
  refine tl_iret rfl ?_
  -- leaf 0 at 6
  exact ⟨_, rfl, rfl, rfl⟩
set_option maxRecDepth 20000 in
set_option maxHeartbeats 1000000 in
theorem r_rem_A (l : Launch) (h : jH) (act : Int) (P : Option Value → jH → Prop) (hx : jT l 206 40 [some (.ref 388), some (.int (jI act)), some (.int (jI ((20355 : Nat) : Int)))] [] (hw h 391 (sft (h 391) 1357 20355)) P) : ∀ (m k : Nat), 20355 - k < m → k ≤ 20355 → jT l 206 11 [some (.ref 388), some (.int (jI act)), some (.int (jI (k : Int)))] [] (hw h 391 (sft (h 391) 1357 k)) P := by
  intro m
  induction m with
  | zero => intro k hk; omega
  | succ m ih =>
    intro k hk hkK
    refine tl_iload_n rfl rfl ?_
    refine tl_sipush rfl rfl ?_
    refine tl_icmp_ge (tgt := 40) rfl rfl ⟨by omega, by omega⟩ ⟨by omega, by omega⟩ (fun c1 => ?_) (fun c1 => ?_)
    · skip
      show jT _ _ 40 _ _ _ _
      -- leaf 0 at 40
      have e : k = 20355 := by omega
      subst e
      exact hx
    · show jT _ _ 18 _ _ _ _
      refine tl_aload_n rfl rfl ?_
      refine tl_getr (c := 12) (k9 := 4) (b := 391) rfl rfl rfl rfl ?_
      refine tl_iload_n rfl rfl ?_
      show jT _ _ 23 _ _ _ _
      refine tl_aload_n rfl rfl ?_
      refine tl_getr (c := 12) (k9 := 4) (b := 391) rfl rfl rfl rfl ?_
      refine tl_iload_n rfl rfl ?_
      refine tl_sipush rfl rfl ?_
      refine tl_iadd rfl ?_
      refine tl_iald (n := 21712) rfl rfl rfl (by omega) (by omega) ?_
      rw [hw_s, show ((k : Int) + 1357).toNat = k + 1357 by omega]
      refine tl_iast (n := 21712) rfl rfl rfl (by omega) (by omega) ?_
      show jT _ _ 34 _ _ _ _
      refine tl_iinc rfl rfl rfl ?_
      refine tl_goto (tgt := 11) rfl rfl ?_
      show jT _ _ 11 _ _ _ _
      -- leaf 1 at 11
      rw [hw_hs, Int.toNat_natCast, sft_s (by decide)]
      exact ih (k + 1) (by omega) (by omega)
set_option maxRecDepth 20000 in
set_option maxHeartbeats 1000000 in
theorem r_rem_B (l : Launch) (h : jH) (act : Int) (P : Option Value → jH → Prop) (hx : jT l 206 68 [some (.ref 388), some (.int (jI act)), some (.int (jI ((15 : Nat) : Int)))] [] (hw h 392 (sft (h 392) 1 15)) P) : ∀ (m k : Nat), 15 - k < m → k ≤ 15 → jT l 206 42 [some (.ref 388), some (.int (jI act)), some (.int (jI (k : Int)))] [] (hw h 392 (sft (h 392) 1 k)) P := by
  intro m
  induction m with
  | zero => intro k hk; omega
  | succ m ih =>
    intro k hk hkK
    refine tl_iload_n rfl rfl ?_
    refine tl_bipush rfl rfl ?_
    refine tl_icmp_ge (tgt := 68) rfl rfl ⟨by omega, by omega⟩ ⟨by omega, by omega⟩ (fun c1 => ?_) (fun c1 => ?_)
    · skip
      show jT _ _ 68 _ _ _ _
      -- leaf 0 at 68
      have e : k = 15 := by omega
      subst e
      exact hx
    · show jT _ _ 48 _ _ _ _
      refine tl_aload_n rfl rfl ?_
      refine tl_getr (c := 12) (k9 := 5) (b := 392) rfl rfl rfl rfl ?_
      refine tl_iload_n rfl rfl ?_
      show jT _ _ 53 _ _ _ _
      refine tl_aload_n rfl rfl ?_
      refine tl_getr (c := 12) (k9 := 5) (b := 392) rfl rfl rfl rfl ?_
      refine tl_iload_n rfl rfl ?_
      refine tl_iconst rfl ?_
      refine tl_iadd rfl ?_
      refine tl_iald (n := 16) rfl rfl rfl (by omega) (by omega) ?_
      rw [hw_s, show ((k : Int) + 1).toNat = k + 1 by omega]
      refine tl_iast (n := 16) rfl rfl rfl (by omega) (by omega) ?_
      show jT _ _ 62 _ _ _ _
      refine tl_iinc rfl rfl rfl ?_
      refine tl_goto (tgt := 42) rfl rfl ?_
      show jT _ _ 42 _ _ _ _
      -- leaf 1 at 42
      rw [hw_hs, Int.toNat_natCast, sft_s (by decide)]
      exact ih (k + 1) (by omega) (by omega)
set_option maxRecDepth 20000 in
set_option maxHeartbeats 1000000 in
theorem r_rem_C (l : Launch) (h : jH) (act : Int) (n : Nat) (hn : n < 16) (hn6 : h 388 6 = (n : Int)) (P : Option Value → jH → Prop) (hx : jT l 206 116 [some (.ref 388), some (.int (jI act)), some (.int (jI ((1357 : Nat) : Int)))] [] (hw h 391 (va_cpy (h 390) (h 391) 5 (1357 * n) 1357)) P) : ∀ (m k : Nat), 1357 - k < m → k ≤ 1357 → jT l 206 80 [some (.ref 388), some (.int (jI act)), some (.int (jI (k : Int)))] [] (hw h 391 (va_cpy (h 390) (h 391) 5 (1357 * n) k)) P := by
  intro m
  induction m with
  | zero => intro k hk; omega
  | succ m ih =>
    intro k hk hkK
    refine tl_iload_n rfl rfl ?_
    refine tl_sipush rfl rfl ?_
    refine tl_icmp_ge (tgt := 116) rfl rfl ⟨by omega, by omega⟩ ⟨by omega, by omega⟩ (fun c1 => ?_) (fun c1 => ?_)
    · skip
      show jT _ _ 116 _ _ _ _
      -- leaf 0 at 116
      have e : k = 1357 := by omega
      subst e
      exact hx
    · show jT _ _ 87 _ _ _ _
      refine tl_aload_n rfl rfl ?_
      refine tl_getr (c := 12) (k9 := 4) (b := 391) rfl rfl rfl rfl ?_
      refine tl_sipush rfl rfl ?_
      show jT _ _ 94 _ _ _ _
      refine tl_aload_n rfl rfl ?_
      refine tl_geti (c := 12) (k9 := 6) rfl rfl rfl ?_
      rw [hw_o (show (388 : Nat) ≠ 391 by decide), hn6]
      refine tl_imul rfl ?_
      refine tl_iload_n rfl rfl ?_
      refine tl_iadd rfl ?_
      refine tl_aload_n rfl rfl ?_
      refine tl_getr (c := 12) (k9 := 3) (b := 390) rfl rfl rfl rfl ?_
      show jT _ _ 105 _ _ _ _
      refine tl_iconst rfl ?_
      refine tl_iload_n rfl rfl ?_
      refine tl_iadd rfl ?_
      refine tl_iald (n := 1362) rfl rfl rfl (by omega) (by omega) ?_
      rw [hw_o (show (390 : Nat) ≠ 391 by decide), show ((5 : Int) + (k : Int)).toNat = 5 + k by omega]
      refine tl_iast (n := 21712) rfl rfl rfl (by omega) (by omega) ?_
      refine tl_iinc rfl rfl rfl ?_
      refine tl_goto (tgt := 80) rfl rfl ?_
      show jT _ _ 80 _ _ _ _
      -- leaf 1 at 80
      rw [hw_hs, show ((1357 : Int) * (n : Int) + (k : Int)).toNat = 1357 * n + k by omega, cpy_s]
      exact ih (k + 1) (by omega) (by omega)
/-- what remember does: the state is kept behind the others, sixteen at most -/
def Trem (h : jH) (act : Int) : jH := if h 388 6 = 16 then hw (hw h 391 (va_cpy (h 390) (sft (h 391) 1357 20355) 5 20355 1357)) 392 (fun i => if i = 15 then act else sft (h 392) 1 15 i)
  else hs (hw (hw h 391 (va_cpy (h 390) (h 391) 5 (1357 * (h 388 6).toNat) 1357)) 392 (fun i => if i = (h 388 6).toNat then act else h 392 i)) 388 6 (h 388 6 + 1)
set_option maxRecDepth 20000 in
set_option maxHeartbeats 1000000 in
theorem r_rem_end (l : Launch) (h : jH) (act : Int) (n : Nat) (hn : n < 16) (hn6 : h 388 6 = (n : Int)) (x : Option Value) (P : Option Value → jH → Prop) (hP : P none (hs (hw (hw h 391 (va_cpy (h 390) (h 391) 5 (1357 * n) 1357)) 392 (fun i => if i = n then act else h 392 i)) 388 6 ((n : Int) + 1))) : jT l 206 78 [some (.ref 388), some (.int (jI act)), x] [] h P := by
  refine tl_iconst rfl ?_
  refine tl_istore_n rfl (Nat.le_of_ble_eq_true rfl) rfl ?_
  show jT _ _ 80 _ _ _ _
  -- leaf 0 at 80
  have e0 : h = hw h 391 (va_cpy (h 390) (h 391) 5 (1357 * n) 0) := by rw [cpy_0, hw_self]
  refine Eq.mpr (congrArg (fun q => jT l 206 80 [some (.ref 388), some (.int (jI act)), some (.int (jI ((0 : Nat) : Int)))] [] q P) e0) ?_
  refine r_rem_C l h act n hn hn6 P ?_ _ 0 (Nat.lt_succ_self _) (Nat.zero_le _)
  refine tl_aload_n rfl rfl ?_
  refine tl_getr (c := 12) (k9 := 5) (b := 392) rfl rfl rfl rfl ?_
  refine tl_aload_n rfl rfl ?_
  refine tl_geti (c := 12) (k9 := 6) rfl rfl rfl ?_
  rw [hw_o (show (388 : Nat) ≠ 391 by decide), hn6]
  refine tl_iload_n rfl rfl ?_
  refine tl_iast (n := 16) rfl rfl rfl (by omega) (by omega) ?_
  rw [Int.toNat_natCast, show hs (hw h 391 (va_cpy (h 390) (h 391) 5 (1357 * n) 1357)) 392 n act = hw (hw h 391 (va_cpy (h 390) (h 391) 5 (1357 * n) 1357)) 392 (fun i => if i = n then act else h 392 i) from by rw [hs_eq, hw_o (show (392 : Nat) ≠ 391 by decide)]]
  show jT _ _ 126 _ _ _ _
  refine tl_aload_n rfl rfl ?_
  refine tl_dup rfl rfl ?_
  refine tl_geti (c := 12) (k9 := 6) rfl rfl rfl ?_
  rw [hw_o (show (388 : Nat) ≠ 392 by decide), hw_o (show (388 : Nat) ≠ 391 by decide), hn6]
  refine tl_iconst rfl ?_
  refine tl_iadd rfl ?_
  refine tl_puti (c := 12) (k9 := 6) rfl rfl rfl rfl ?_
  refine tl_ret rfl ?_
  -- leaf 0 at 136
  exact hP
set_option maxRecDepth 20000 in
set_option maxHeartbeats 1000000 in
theorem r_remember (l : Launch) (h : jH) (act : Int) (n0 : 0 ≤ h 388 6) (n1 : h 388 6 ≤ 16) : cV l 206 [.ref 388, .int (jI act)] h (fun h' => h' = Trem h act) := by
  refine cV.of rfl rfl ?_
  refine tl_aload_n rfl rfl ?_
  refine tl_geti (c := 12) (k9 := 6) rfl rfl rfl ?_
  refine tl_bipush rfl rfl ?_
  refine tl_icmp_ne (tgt := 78) rfl rfl ⟨by omega, by omega⟩ ⟨by omega, by omega⟩ (fun c1 => ?_) (fun c1 => ?_)
  · skip
    show jT _ _ 78 _ _ _ _
    -- leaf 0 at 78
    refine r_rem_end l h act (h 388 6).toNat (by omega) (by omega) _ _ ⟨rfl, ?_⟩
    rw [Trem, if_neg c1, show (((h 388 6).toNat : Nat) : Int) = h 388 6 by omega]
  · show jT _ _ 9 _ _ _ _
    refine tl_iconst rfl ?_
    refine tl_istore_n rfl (Nat.le_of_ble_eq_true rfl) rfl ?_
    show jT _ _ 11 _ _ _ _
    -- leaf 1 at 11
    have e0 : h = hw h 391 (sft (h 391) 1357 0) := by rw [sft_0, hw_self]
    refine Eq.mpr (congrArg (fun q => jT l 206 11 [some (.ref 388), some (.int (jI act)), some (.int (jI ((0 : Nat) : Int)))] [] q _) e0) ?_
    refine r_rem_A l h act _ ?_ _ 0 (Nat.lt_succ_self _) (Nat.zero_le _)
    generalize hA : hw h 391 (sft (h 391) 1357 20355) = hA9
    refine tl_iconst rfl ?_
    refine tl_istore_n rfl (Nat.le_of_ble_eq_true rfl) rfl ?_
    show jT _ _ 42 _ _ _ _
    -- leaf 0 at 42
    have e1 : hA9 = hw hA9 392 (sft (hA9 392) 1 0) := by rw [sft_0, hw_self]
    refine Eq.mpr (congrArg (fun q => jT l 206 42 [some (.ref 388), some (.int (jI act)), some (.int (jI ((0 : Nat) : Int)))] [] q _) e1) ?_
    refine r_rem_B l hA9 act _ ?_ _ 0 (Nat.lt_succ_self _) (Nat.zero_le _)
    have a1 : ∀ x, x ≠ 391 → hA9 x = h x := fun x hx => by rw [← hA, hw_o hx]
    have a2 : hA9 391 = sft (h 391) 1357 20355 := by rw [← hA, hw_s]
    have c9 : h 388 6 = 16 := by omega
    refine tl_aload_n rfl rfl ?_
    refine tl_dup rfl rfl ?_
    refine tl_geti (c := 12) (k9 := 6) rfl rfl rfl ?_
    rw [hw_o (show (388 : Nat) ≠ 392 by decide), a1 388 (by decide), c9]
    refine tl_iconst rfl ?_
    refine tl_isub rfl ?_
    refine tl_puti (c := 12) (k9 := 6) rfl rfl rfl rfl ?_
    show jT _ _ 78 _ _ _ _
    -- leaf 0 at 78
    refine r_rem_end l _ act 15 (by decide) hs_s _ _ ⟨rfl, ?_⟩
    rw [Trem, if_pos c9]
    funext p
    by_cases p1 : p = 388
    · subst p1
      funext q
      by_cases q6 : q = 6
      · subst q6
        rw [hs_s, hw_o (by decide), hw_o (by decide), c9]
        rfl
      · rw [hs_k q6, hw_o (by decide), hw_o (by decide), hs_k q6, hw_o (by decide), a1 388 (by decide), hw_o (by decide), hw_o (by decide)]
    · have o1 : ∀ (H : jH) (z : Int), hs H 388 6 z p = H p := fun H z => by funext q; exact hs_o p1
      rw [o1]
      by_cases p2 : p = 392
      · subst p2
        rw [hw_s, hw_s]
        funext i
        rw [hs_o (by decide), hw_s, a1 392 (by decide)]
      · rw [hw_o p2, hw_o p2]
        by_cases p3 : p = 391
        · subst p3
          rw [hw_s, hw_s]
          have b1 : ∀ (H : jH) (z : Int) (x : Nat), x ≠ 388 → hs H 388 6 z x = H x := fun H z x hx => by funext q; exact hs_o hx
          rw [b1 _ _ 390 (by decide), b1 _ _ 391 (by decide), hw_o (by decide), hw_o (by decide), a1 390 (by decide), a2]
        · rw [hw_o p3, hw_o p3, o1, hw_o p2, a1 p p3]
