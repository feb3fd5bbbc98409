/-! put: Row.putIn against the reference's -/
set_option maxRecDepth 20000 in
set_option maxHeartbeats 1000000 in
theorem r_put_A (l : Launch) (h : jH) (p n : Int) (p0 : 0 ≤ p) (n0 : 0 ≤ n) (hS : h 390 70 + n ≤ 64) (hp : p ≤ h 390 70) (P : Option Value → jH → Prop) (hx : jT l 227 51 [some (.ref 388), some (.int (jI p)), some (.int (jI n)), some (.int (jI 70)), some (.int (jI (h 390 70 - 1 - (((h 390 70 - p).toNat : Nat) : Int))))] [] (hw h 390 (va_cpy (h 390) (h 390) ((71 + h 390 70).toNat - (h 390 70 - p).toNat) ((71 + h 390 70 + n).toNat - (h 390 70 - p).toNat) (h 390 70 - p).toNat)) P) : ∀ (m k : Nat), (h 390 70 - p).toNat - k < m → k ≤ (h 390 70 - p).toNat → jT l 227 15 [some (.ref 388), some (.int (jI p)), some (.int (jI n)), some (.int (jI 70)), some (.int (jI (h 390 70 - 1 - ((k : Nat) : Int))))] [] (hw h 390 (va_cpy (h 390) (h 390) ((71 + h 390 70).toNat - k) ((71 + h 390 70 + n).toNat - k) k)) P := by
  intro m
  induction m with
  | zero => intro k hk; omega
  | succ m ih =>
    intro k hk hkK
    refine tl_iload rfl rfl ?_
    refine tl_iload_n rfl rfl ?_
    refine tl_icmp_lt (tgt := 51) rfl rfl ⟨by omega, by omega⟩ ⟨by omega, by omega⟩ (fun c1 => ?_) (fun c1 => ?_)
    · skip
      show jT _ _ 51 _ _ _ _
      -- leaf 0 at 51
      have e : k = (h 390 70 - p).toNat := by omega
      rw [e]
      exact hx
    · show jT _ _ 21 _ _ _ _
      refine tl_aload_n rfl rfl ?_
      refine tl_getr (c := 12) (k9 := 3) (b := 390) rfl rfl rfl rfl ?_
      refine tl_iload_n rfl rfl ?_
      show jT _ _ 26 _ _ _ _
      refine tl_iconst rfl ?_
      refine tl_iadd rfl ?_
      refine tl_iload rfl rfl ?_
      refine tl_iadd rfl ?_
      refine tl_iload_n rfl rfl ?_
      refine tl_iadd rfl ?_
      refine tl_aload_n rfl rfl ?_
      show jT _ _ 34 _ _ _ _
      refine tl_getr (c := 12) (k9 := 3) (b := 390) rfl rfl rfl rfl ?_
      refine tl_iload_n rfl rfl ?_
      refine tl_iconst rfl ?_
      refine tl_iadd rfl ?_
      refine tl_iload rfl rfl ?_
      refine tl_iadd rfl ?_
      refine tl_iald (n := 1362) rfl rfl rfl (by omega) (by omega) ?_
      rw [hw_s, show ((70 : Int) + 1 + (h 390 70 - 1 - (k : Int))).toNat = (71 + h 390 70).toNat - (k + 1) by omega, va_cpy, if_neg (by omega)]
      show jT _ _ 44 _ _ _ _
      refine tl_iast (n := 1362) rfl rfl rfl (by omega) (by omega) ?_
      refine tl_iinc rfl rfl rfl ?_
      refine tl_goto (tgt := 15) rfl rfl ?_
      show jT _ _ 15 _ _ _ _
      -- leaf 1 at 15
      rw [hw_hs, show ((70 : Int) + 1 + (h 390 70 - 1 - (k : Int)) + n).toNat = (71 + h 390 70 + n).toNat - (k + 1) by omega]
      have e := cpy_d (f := h 390) (g := h 390) (sp := (71 + h 390 70).toNat - (k + 1)) (dp := (71 + h 390 70 + n).toNat - (k + 1)) (n := k)
      rw [show (71 + h 390 70).toNat - (k + 1) + 1 = (71 + h 390 70).toNat - k by omega, show (71 + h 390 70 + n).toNat - (k + 1) + 1 = (71 + h 390 70 + n).toNat - k by omega] at e
      rw [e]
      have := ih (k + 1) (by omega) (by omega)
      rw [show h 390 70 - 1 - ((k + 1 : Nat) : Int) = h 390 70 - 1 - (k : Int) + -1 by omega] at this
      exact this
set_option maxRecDepth 20000 in
set_option maxHeartbeats 1000000 in
theorem r_put_B (l : Launch) (h : jH) (p n : Int) (p0 : 0 ≤ p) (n0 : 0 ≤ n) (hp : p + n ≤ 64) (P : Option Value → jH → Prop) (hx : jT l 227 86 [some (.ref 388), some (.int (jI p)), some (.int (jI n)), some (.int (jI 70)), some (.int (jI ((n.toNat : Nat) : Int)))] [] (hw h 390 (va_cpy (h 394) (h 390) 0 (71 + p).toNat n.toNat)) P) : ∀ (m k : Nat), n.toNat - k < m → k ≤ n.toNat → jT l 227 54 [some (.ref 388), some (.int (jI p)), some (.int (jI n)), some (.int (jI 70)), some (.int (jI ((k : Nat) : Int)))] [] (hw h 390 (va_cpy (h 394) (h 390) 0 (71 + p).toNat k)) P := by
  intro m
  induction m with
  | zero => intro k hk; omega
  | succ m ih =>
    intro k hk hkK
    refine tl_iload rfl rfl ?_
    refine tl_iload_n rfl rfl ?_
    refine tl_icmp_ge (tgt := 86) rfl rfl ⟨by omega, by omega⟩ ⟨by omega, by omega⟩ (fun c1 => ?_) (fun c1 => ?_)
    · skip
      show jT _ _ 86 _ _ _ _
      -- leaf 0 at 86
      have e : k = n.toNat := by omega
      rw [e]
      exact hx
    · show jT _ _ 60 _ _ _ _
      refine tl_aload_n rfl rfl ?_
      refine tl_getr (c := 12) (k9 := 3) (b := 390) rfl rfl rfl rfl ?_
      refine tl_iload_n rfl rfl ?_
      show jT _ _ 65 _ _ _ _
      refine tl_iconst rfl ?_
      refine tl_iadd rfl ?_
      refine tl_iload_n rfl rfl ?_
      refine tl_iadd rfl ?_
      refine tl_iload rfl rfl ?_
      refine tl_iadd rfl ?_
      refine tl_aload_n rfl rfl ?_
      show jT _ _ 73 _ _ _ _
      refine tl_getr (c := 12) (k9 := 9) (b := 394) rfl rfl rfl rfl ?_
      refine tl_iload rfl rfl ?_
      refine tl_iald (n := 64) rfl rfl rfl (by omega) (by omega) ?_
      rw [hw_o (show (394 : Nat) ≠ 390 by decide), Int.toNat_natCast]
      refine tl_iast (n := 1362) rfl rfl rfl (by omega) (by omega) ?_
      refine tl_iinc rfl rfl rfl ?_
      refine tl_goto (tgt := 54) rfl rfl ?_
      show jT _ _ 54 _ _ _ _
      -- leaf 1 at 54
      rw [hw_hs, show ((70 : Int) + 1 + p + (k : Int)).toNat = (71 + p).toNat + k by omega]
      have e := cpy_s (f := h 394) (g := h 390) (sp := 0) (dp := (71 + p).toNat) (n := k)
      rw [Nat.zero_add] at e
      rw [e]
      exact ih (k + 1) (by omega) (by omega)
set_option maxRecDepth 20000 in
set_option maxHeartbeats 1000000 in
theorem r_putIn (l : Launch) (h : jH) (p n : Int) (p0 : 0 ≤ p) (n0 : 0 ≤ n) (hS : h 390 70 + n ≤ 64) (hp : p ≤ h 390 70) (h70 : 0 ≤ h 390 70) : cV l 227 [.ref 388, .int (jI p), .int (jI n)] h (fun h' => h' = Tputin h p n) := by
  refine cV.of rfl rfl ?_
  refine tl_iconst rfl ?_
  refine tl_s1i (c_fileAt l _ 1) rfl rfl rfl (Nat.le_of_ble_eq_true rfl) (fun z6 h6 p6 => ?_)
  obtain ⟨q6, rfl⟩ := p6
  have q6 := q6.symm
  subst q6
  rw [show (5 + 65 * 1 : Int) = 70 from rfl]
  refine tl_istore_n rfl (Nat.le_of_ble_eq_true rfl) rfl ?_
  refine tl_aload_n rfl rfl ?_
  refine tl_getr (c := 12) (k9 := 3) (b := 390) rfl rfl rfl rfl ?_
  refine tl_iload_n rfl rfl ?_
  show jT _ _ 10 _ _ _ _
  refine tl_iald (n := 1362) rfl rfl rfl (by omega) (by omega) ?_
  refine tl_iconst rfl ?_
  refine tl_isub rfl ?_
  refine tl_istore rfl (Nat.le_of_ble_eq_true rfl) rfl ?_
  show jT _ _ 15 _ _ _ _
  -- leaf 0 at 15
  have e0 : h = hw h 390 (va_cpy (h 390) (h 390) ((71 + h 390 70).toNat - 0) ((71 + h 390 70 + n).toNat - 0) 0) := by rw [cpy_0, hw_self]
  rw [show Int.toNat 70 = 70 from rfl, show h 390 70 - 1 = h 390 70 - 1 - ((0 : Nat) : Int) by omega]
  refine Eq.mpr (congrArg (fun q => jT l 227 15 [some (.ref 388), some (.int (jI p)), some (.int (jI n)), some (.int (jI 70)), some (.int (jI (h 390 70 - 1 - ((0 : Nat) : Int))))] [] q _) e0) ?_
  refine r_put_A l h p n p0 n0 hS hp _ ?_ _ 0 (Nat.lt_succ_self _) (Nat.zero_le _)
  refine tl_iconst rfl ?_
  refine tl_istore rfl (Nat.le_of_ble_eq_true rfl) rfl ?_
  show jT _ _ 54 _ _ _ _
  -- leaf 0 at 54
  rw [show (71 + h 390 70).toNat - (h 390 70 - p).toNat = (71 + p).toNat by omega, show (71 + h 390 70 + n).toNat - (h 390 70 - p).toNat = (71 + p + n).toNat by omega]
  generalize g4 : hw h 390 (va_cpy (h 390) (h 390) (71 + p).toNat (71 + p + n).toNat (h 390 70 - p).toNat) = m4
  have e4 : m4 390 = va_cpy (h 390) (h 390) (71 + p).toNat (71 + p + n).toNat (h 390 70 - p).toNat := by rw [← g4, hw_s]
  have e5 : m4 394 = h 394 := by rw [← g4, hw_o (by decide)]
  have e0 : m4 = hw m4 390 (va_cpy (m4 394) (m4 390) 0 (71 + p).toNat 0) := by rw [cpy_0, hw_self]
  refine Eq.mpr (congrArg (fun q => jT l 227 54 [some (.ref 388), some (.int (jI p)), some (.int (jI n)), some (.int (jI 70)), some (.int (jI ((0 : Nat) : Int)))] [] q _) e0) ?_
  refine r_put_B l m4 p n p0 n0 (by omega) _ ?_ _ 0 (Nat.lt_succ_self _) (Nat.zero_le _)
  refine tl_aload_n rfl rfl ?_
  refine tl_getr (c := 12) (k9 := 3) (b := 390) rfl rfl rfl rfl ?_
  refine tl_iload_n rfl rfl ?_
  refine tl_dup2 rfl rfl rfl ?_
  refine tl_iald (n := 1362) rfl rfl rfl (by omega) (by omega) ?_
  rw [hw_s, show Int.toNat 70 = 70 from rfl, va_cpy, if_neg (by omega), e4, va_cpy, if_neg (by omega)]
  refine tl_iload_n rfl rfl ?_
  show jT _ _ 94 _ _ _ _
  refine tl_iadd rfl ?_
  refine tl_iast (n := 1362) rfl rfl rfl (by omega) (by omega) ?_
  refine tl_ret rfl ?_
  -- leaf 0 at 96
  refine ⟨rfl, ?_⟩
  rw [show Int.toNat 70 = 70 from rfl, hw_hs, e5, ← g4, hw_hw]
  rfl
set_option maxRecDepth 20000 in
set_option maxHeartbeats 1000000 in
theorem c_Row_putIn (l : Launch) {r a n : Nat} (hS : RowS r a n) (h : jH) (i v : Int) (h0 : 0 ≤ h r 1) (h1 : h r 1 < (n : Int)) (i0 : 0 ≤ i) (iq : i ≤ h r 1) : cV l 104 [.ref r, .int (jI i), .int (jI v)] h (fun h' => h' = hs (hs (hw h a (va_cpy (h a) (h a) i.toNat (i + 1).toNat (h r 1 - i).toNat)) a i.toNat v) r 1 (h r 1 + 1)) := by
  have hne := hS.ne
  have hle := hS.le
  refine cV.of rfl rfl ?_
  refine tl_iload_n rfl rfl ?_
  refine tl_if_lt (tgt := 24) rfl rfl ⟨by omega, by omega⟩ (fun c1 => ?_) (fun c1 => ?_)
  · skip
    refine tl_ret rfl ?_
    -- leaf 0 at 24
    exfalso; omega
  · show jT _ _ 4 _ _ _ _
    refine tl_iload_n rfl rfl ?_
    refine tl_aload_n rfl rfl ?_
    refine tl_geti (c := 8) (k9 := 1) rfl hS.1 rfl ?_
    show jT _ _ 9 _ _ _ _
    refine tl_icmp_gt (tgt := 24) rfl rfl ⟨by omega, by omega⟩ ⟨by omega, by omega⟩ (fun c2 => ?_) (fun c2 => ?_)
    · skip
      refine tl_ret rfl ?_
      -- leaf 1 at 24
      exfalso; omega
    · show jT _ _ 12 _ _ _ _
      refine tl_aload_n rfl rfl ?_
      refine tl_geti (c := 8) (k9 := 1) rfl hS.1 rfl ?_
      refine tl_aload_n rfl rfl ?_
      refine tl_getr (c := 8) (k9 := 0) rfl hS.1 rfl hS.2.1 ?_
      refine tl_alen rfl (Or.inl hS.2.2.1) hS.2.2.2 ?_
      show jT _ _ 21 _ _ _ _
      refine tl_icmp_lt (tgt := 25) rfl rfl ⟨by omega, by omega⟩ ⟨by omega, by omega⟩ (fun c3 => ?_) (fun c3 => ?_)
      · skip
        refine tl_aload_n rfl rfl ?_
        refine tl_getr (c := 8) (k9 := 0) rfl hS.1 rfl hS.2.1 ?_
        refine tl_iload_n rfl rfl ?_
        refine tl_aload_n rfl rfl ?_
        refine tl_getr (c := 8) (k9 := 0) rfl hS.1 rfl hS.2.1 ?_
        refine tl_iload_n rfl rfl ?_
        show jT _ _ 35 _ _ _ _
        refine tl_iconst rfl ?_
        refine tl_iadd rfl ?_
        refine tl_aload_n rfl rfl ?_
        refine tl_geti (c := 8) (k9 := 1) rfl hS.1 rfl ?_
        refine tl_iload_n rfl rfl ?_
        refine tl_isub rfl ?_
        refine tl_copy rfl hS.2.2.1 hS.2.2.1 hS.2.2.2 hS.2.2.2 (by omega) (by omega) (by omega) (by omega) (by omega) (Nat.le_of_ble_eq_true rfl) rfl ?_
        show jT _ _ 46 _ _ _ _
        refine tl_aload_n rfl rfl ?_
        refine tl_getr (c := 8) (k9 := 0) rfl hS.1 rfl hS.2.1 ?_
        refine tl_iload_n rfl rfl ?_
        refine tl_iload_n rfl rfl ?_
        refine tl_iast rfl hS.2.2.1 hS.2.2.2 (by omega) (by omega) ?_
        refine tl_aload_n rfl rfl ?_
        refine tl_dup rfl rfl ?_
        show jT _ _ 55 _ _ _ _
        refine tl_geti (c := 8) (k9 := 1) rfl hS.1 rfl ?_
        rw [hs_o hne, hw_o hne]
        refine tl_iconst rfl ?_
        refine tl_iadd rfl ?_
        refine tl_puti (c := 8) (k9 := 1) rfl rfl hS.1 rfl ?_
        refine tl_ret rfl ?_
        -- leaf 2 at 63
        exact ⟨rfl, rfl⟩
      · show jT _ _ 24 _ _ _ _
        refine tl_ret rfl ?_
        -- leaf 3 at 24
        exfalso; omega
def Dput (s : jH) (p v : Int) : Int × jH := if p < 0 ∨ s 390 70 < p ∨ v < 0 ∨ 255 < v then dT s (-1) else if s 390 70 = 64 then dT s (-5) else dT (Tputin (hs (Trem s 6) 394 0 v) p 1) (s 390 70 + 1)
theorem Ag.put {s s' : jH} (h : Ag s s') (p v : Int) : AgD (Dput s p v) (Dput s' p v) := by
  unfold Dput
  rw [h 390 (by decide)]
  split
  · exact h.d _
  · split
    · exact h.d _
    · exact (((h.rem _).s1 rfl).putin _ _).d _
/-- a byte put in, the taken row holding it -/
theorem IC.put {h s : jH} {t p : Int} (hI : IC h s t) (p0 : 0 ≤ p) (hp : p ≤ s 390 70) (h64 : s 390 70 < 64) (v : Int) (hv : byt v) : IC (hs (hs (hw h 5 (va_cpy (h 5) (h 5) p.toNat (p + 1).toNat (h 4 1 - p).toNat)) 5 p.toNat v) 4 1 (h 4 1 + 1)) (Tputin (hs s 394 0 v) p 1) t := by
  have hF : RSf h 4 (s 390) 70 := hI.1.1 1 (by decide)
  obtain ⟨a1, a2, a3, a4⟩ := hF
  have hI2 : IC h (hs s 394 0 v) t := hI.scr (fun x _ _ => hs_O (by omega))
  have e39 : hs s 394 0 v 390 = s 390 := hs_O (by decide)
  refine hI2.file_upd 1 (by decide) ⟨?_, ?_, ?_, fun i hi => ?_⟩ ⟨fun x hx => hw_o hx, fun i hi => ?_⟩ (fun x _ x1 x2 => ?_) (fun z => by omega)
  · rw [Tputin, hw_s, Rput, if_pos rfl, hs_s, a1, e39]
  · rw [Tputin, hw_s, Rput, if_pos rfl, e39]; omega
  · rw [Tputin, hw_s, Rput, if_pos rfl, e39]; omega
  · rw [Tputin, hw_s, Rput, if_pos rfl, e39] at hi
    rw [hs_o (by omega), Tputin, hw_s, Rput, if_neg (by omega), e39, va_cpy, va_cpy]
    by_cases e : i = p.toNat
    · subst e
      rw [if_pos (by omega), show 0 + (5 + 65 * 1 + 1 + p.toNat - (71 + p).toNat) = 0 by omega, hs_s, hs_s]
      exact ⟨rfl, hv⟩
    · rw [if_neg (by omega), show (2 + 2 * 1 + 1 : Nat) = 5 from rfl, hs_k e, hw_s, va_cpy, a1]
      by_cases e2 : p.toNat < i
      · rw [if_pos (by omega), if_pos (by omega)]
        have := a4 (p.toNat + (i - (p + 1).toNat)) (by omega)
        rw [show 70 + 1 + (p.toNat + (i - (p + 1).toNat)) = (71 + p).toNat + (5 + 65 * 1 + 1 + i - (71 + p + 1).toNat) by omega] at this
        exact this
      · rw [if_neg (by omega), if_neg (by omega)]
        exact a4 i (by omega)
  · rw [Tputin, hw_s, Rput, if_neg (by omega), e39, va_cpy, if_neg (by omega), va_cpy, if_neg (by omega)]
  · rw [hs_O x1, hs_O x2, hw_o x2]
set_option maxRecDepth 20000 in
set_option maxHeartbeats 1000000 in
theorem k_put (l : Launch) (h s : jH) (t p v : Int) (hI : IC h s t) (hp : jr p) (hv : jr v) : cI l 149 [.ref 0, .int (jI p), .int (jI v)] h (PK h t (Dput s p v)) := by
  have p1 := hp.1
  have p2 := hp.2
  have v1 := hv.1
  have v2 := hv.2
  have hF : RSf h 4 (s 390) 70 := hI.1.1 1 (by decide)
  obtain ⟨a1, a2, a3, a4⟩ := hF
  refine cI.of rfl rfl ?_
  refine tl_iload_n rfl rfl ?_
  refine tl_if_lt (tgt := 25) rfl rfl ⟨by omega, by omega⟩ (fun c1 => ?_) (fun c1 => ?_)
  · skip
    refine tl_aload_n rfl rfl ?_
    refine tl_iconst rfl ?_
    refine tl_v1i (c9 := 11) (k_refuse l _ _ (by omega) (by omega)) rfl rfl rfl rfl rfl (Nat.le_of_ble_eq_true rfl) (fun zr hr pr => ?_)
    obtain ⟨rfl, rfl⟩ := pr
    refine tl_iret rfl ?_
    -- leaf 0 at 30
    refine ⟨_, rfl, ?_⟩
    rw [Dput]
    repeat (first | rw [if_pos (by omega)] | rw [if_neg (by omega)])
    exact PK.ref hI (by omega) (by omega)
  · show jT _ _ 4 _ _ _ _
    show jT _ _ 4 _ _ _ _
    refine tl_iload_n rfl rfl ?_
    refine tl_aload_n rfl rfl ?_
    refine tl_getr (c := 11) (k9 := 0) (b := 1) rfl rfl rfl rfl ?_
    refine tl_getr (c := 9) (k9 := 1) (b := 4) rfl rfl rfl rfl ?_
    refine tl_geti (c := 8) (k9 := 1) rfl rfl rfl ?_
    rw [a1]
    refine tl_icmp_gt (tgt := 25) rfl rfl ⟨by omega, by omega⟩ ⟨by omega, by omega⟩ (fun c2 => ?_) (fun c2 => ?_)
    · skip
      refine tl_aload_n rfl rfl ?_
      show jT _ _ 26 _ _ _ _
      refine tl_iconst rfl ?_
      refine tl_v1i (c9 := 11) (k_refuse l _ _ (by omega) (by omega)) rfl rfl rfl rfl rfl (Nat.le_of_ble_eq_true rfl) (fun zr hr pr => ?_)
      obtain ⟨rfl, rfl⟩ := pr
      refine tl_iret rfl ?_
      -- leaf 1 at 30
      refine ⟨_, rfl, ?_⟩
      rw [Dput]
      repeat (first | rw [if_pos (by omega)] | rw [if_neg (by omega)])
      exact PK.ref hI (by omega) (by omega)
    · show jT _ _ 18 _ _ _ _
      refine tl_iload_n rfl rfl ?_
      refine tl_s1i (k_isByte l _ v ⟨by omega, by omega⟩) rfl rfl rfl (Nat.le_of_ble_eq_true rfl) (fun zb hb pb => ?_)
      obtain ⟨qb, pb⟩ := pb
      have qb := qb.symm
      subst qb
      have bb : zb = 0 ∨ zb = 1 := by rw [pb]; split <;> omega
      refine tl_if_ne (tgt := 31) rfl rfl ⟨by omega, by omega⟩ (fun c3 => ?_) (fun c3 => ?_)
      · skip
        refine tl_aload_n rfl rfl ?_
        show jT _ _ 32 _ _ _ _
        refine tl_getr (c := 11) (k9 := 0) (b := 1) rfl rfl rfl rfl ?_
        refine tl_getr (c := 9) (k9 := 1) (b := 4) rfl rfl rfl rfl ?_
        refine tl_geti (c := 8) (k9 := 1) rfl rfl rfl ?_
        rw [a1]
        refine tl_bipush rfl rfl ?_
        refine tl_icmp_lt (tgt := 53) rfl rfl ⟨by omega, by omega⟩ ⟨by omega, by omega⟩ (fun c4 => ?_) (fun c4 => ?_)
        · skip
          refine tl_aload_n rfl rfl ?_
          refine tl_bipush rfl rfl ?_
          show jT _ _ 56 _ _ _ _
          refine tl_v1v (c9 := 11) (k_keep l _ s t 6 hI (by decide) (by decide)) rfl rfl rfl rfl rfl (Nat.le_of_ble_eq_true rfl) (fun h1 p1 => ?_)
          obtain ⟨i1, f1⟩ := p1
          have e8 : Trem s 6 388 8 = s 388 8 := Trem_n (by decide)
          have e390 : Trem s 6 390 = s 390 := Trem_o (by decide) (by decide) (by decide)
          have e393 : Trem s 6 393 = s 393 := Trem_o (by decide) (by decide) (by decide)
          have m1 : h1 4 1 = s 390 70 := by rw [f1 4 (by omega)]; exact a1
          refine tl_aload_n rfl rfl ?_
          refine tl_getr (c := 11) (k9 := 0) (b := 1) rfl rfl rfl rfl ?_
          refine tl_getr (c := 9) (k9 := 1) (b := 4) rfl rfl rfl rfl ?_
          refine tl_iload_n rfl rfl ?_
          refine tl_iload_n rfl rfl ?_
          refine tl_v2v (c9 := 8) (c_Row_putIn l (RSf_S 1 (by decide)) h1 p v (by show 0 ≤ h1 4 1; omega) (by show h1 4 1 < _; omega) (by omega) (by show p ≤ h1 4 1; omega)) rfl rfl rfl rfl rfl (Nat.le_of_ble_eq_true rfl) (fun h2 p2 => ?_)
          have p3 : h2 = hs (hs (hw h1 5 (va_cpy (h1 5) (h1 5) p.toNat (p + 1).toNat (h1 4 1 - p).toNat)) 5 p.toNat v) 4 1 (h1 4 1 + 1) := p2
          subst p3
          show jT _ _ 71 _ _ _ _
          refine tl_aload_n rfl rfl ?_
          refine tl_aload_n rfl rfl ?_
          refine tl_getr (c := 11) (k9 := 0) (b := 1) rfl rfl rfl rfl ?_
          refine tl_getr (c := 9) (k9 := 1) (b := 4) rfl rfl rfl rfl ?_
          refine tl_geti (c := 8) (k9 := 1) rfl rfl rfl ?_
          rw [hs_s, m1]
          refine tl_v1i (c9 := 11) (k_accept l _ _) rfl rfl rfl rfl rfl (Nat.le_of_ble_eq_true rfl) (fun za ha pa => ?_)
          obtain ⟨rfl, rfl⟩ := pa
          refine tl_iret rfl ?_
          -- leaf 2 at 85
          refine ⟨_, rfl, ?_⟩
          rw [Dput]
          repeat (first | rw [if_pos (by omega)] | rw [if_neg (by omega)])
          have i2 := i1.put (p := p) (by omega) (by rw [e390]; omega) (by rw [e390]; omega) v ⟨by omega, by omega⟩
          rw [m1] at i2
          exact PK.acc i2 (by omega) (fun x hx => by rw [hs_O (by omega), hs_O (by omega), hw_o (by omega), f1 x (by omega)])
        · show jT _ _ 46 _ _ _ _
          show jT _ _ 46 _ _ _ _
          refine tl_aload_n rfl rfl ?_
          refine tl_bipush rfl rfl ?_
          refine tl_v1i (c9 := 11) (k_refuse l _ _ (by omega) (by omega)) rfl rfl rfl rfl rfl (Nat.le_of_ble_eq_true rfl) (fun zr hr pr => ?_)
          obtain ⟨rfl, rfl⟩ := pr
          refine tl_iret rfl ?_
          -- leaf 3 at 52
          refine ⟨_, rfl, ?_⟩
          rw [Dput]
          repeat (first | rw [if_pos (by omega)] | rw [if_neg (by omega)])
          exact PK.ref hI (by omega) (by omega)
      · show jT _ _ 25 _ _ _ _
        refine tl_aload_n rfl rfl ?_
        refine tl_iconst rfl ?_
        refine tl_v1i (c9 := 11) (k_refuse l _ _ (by omega) (by omega)) rfl rfl rfl rfl rfl (Nat.le_of_ble_eq_true rfl) (fun zr hr pr => ?_)
        obtain ⟨rfl, rfl⟩ := pr
        show jT _ _ 30 _ _ _ _
        refine tl_iret rfl ?_
        -- leaf 4 at 30
        refine ⟨_, rfl, ?_⟩
        rw [Dput]
        repeat (first | rw [if_pos (by omega)] | rw [if_neg (by omega)])
        exact PK.ref hI (by omega) (by omega)
set_option maxRecDepth 20000 in
set_option maxHeartbeats 1000000 in
theorem r_put (l : Launch) (g h : jH) (t p v : Int) (hI0 : IC g h t) (hp : jr p) (hv : jr v) : cI l 229 [.ref 388, .int (jI p), .int (jI v)] h (PR (Dput (Tz h) p v)) := by
  have p1 := hp.1
  have p2 := hp.2
  have v1 := hv.1
  have v2 := hv.2
  refine cI.of rfl rfl ?_
  refine tl_aload_n rfl rfl ?_
  refine tl_iconst rfl ?_
  refine tl_puti (c := 12) (k9 := 0) rfl rfl rfl rfl ?_
  have hI := hI0.z
  change jT _ _ _ _ _ (Tz h) _
  generalize Tz h = m at hI ⊢
  have nu := hI.nund
  have hF : RSf g 4 (m 390) 70 := hI.1.1 1 (by decide)
  obtain ⟨a1, a2, a3, a4⟩ := hF
  refine tl_iload_n rfl rfl ?_
  refine tl_i2l rfl ⟨by omega, by omega⟩ ?_
  refine tl_lconst (z := 0) rfl rfl ?_
  show jT _ _ 8 _ _ _ _
  refine tl_aload_n rfl rfl ?_
  refine tl_iconst rfl ?_
  refine tl_v1i (c9 := 12) (c_sizeOf l _ 1 (by decide) (by decide)) rfl rfl rfl rfl rfl (Nat.le_of_ble_eq_true rfl) (fun z8 h8 p8 => ?_)
  obtain ⟨q8, rfl⟩ := p8
  have q8 := q8.symm
  subst q8
  rw [show (5 + 65 * 1 : Int).toNat = 70 from rfl]
  refine tl_i2l rfl ⟨by omega, by omega⟩ ?_
  refine tl_s3i (c_in l _ _ _ _ ⟨by omega, by omega⟩ ⟨by omega, by omega⟩ ⟨by omega, by omega⟩) rfl rfl rfl (Nat.le_of_ble_eq_true rfl) (fun z1 h1 p1 => ?_)
  obtain ⟨q1, p1⟩ := p1
  have q1 := q1.symm
  subst q1
  have b1 : z1 = 0 ∨ z1 = 1 := by rw [p1]; split <;> omega
  refine tl_if_eq (tgt := 32) rfl rfl ⟨by omega, by omega⟩ (fun c1 => ?_) (fun c1 => ?_)
  · skip
    refine tl_aload_n rfl rfl ?_
    show jT _ _ 33 _ _ _ _
    refine tl_iconst rfl ?_
    refine tl_v1i (c9 := 12) (c_tell l _ _ ⟨by omega, by omega⟩ (by omega)) rfl rfl rfl rfl rfl (Nat.le_of_ble_eq_true rfl) (fun zt ht pt => ?_)
    obtain ⟨rfl, pt⟩ := pt
    refine tl_iret rfl ?_
    -- leaf 0 at 37
    refine ⟨_, rfl, ?_⟩
    rw [Dput]
    repeat (first | rw [if_pos (by omega)] | rw [if_neg (by omega)])
    exact ⟨rfl, pt⟩
  · show jT _ _ 20 _ _ _ _
    refine tl_iload_n rfl rfl ?_
    refine tl_i2l rfl ⟨by omega, by omega⟩ ?_
    refine tl_lconst (z := 0) rfl rfl ?_
    refine tl_ldc2 (z := 255) rfl (by decide +kernel) ?_
    show jT _ _ 26 _ _ _ _
    refine tl_s3i (c_in l _ _ _ _ ⟨by omega, by omega⟩ ⟨by omega, by omega⟩ ⟨by omega, by omega⟩) rfl rfl rfl (Nat.le_of_ble_eq_true rfl) (fun z2 h2 p2 => ?_)
    obtain ⟨q2, p2⟩ := p2
    have q2 := q2.symm
    subst q2
    have b2 : z2 = 0 ∨ z2 = 1 := by rw [p2]; split <;> omega
    refine tl_if_ne (tgt := 38) rfl rfl ⟨by omega, by omega⟩ (fun c2 => ?_) (fun c2 => ?_)
    · skip
      refine tl_aload_n rfl rfl ?_
      refine tl_iconst rfl ?_
      refine tl_v1i (c9 := 12) (c_sizeOf l _ 1 (by decide) (by decide)) rfl rfl rfl rfl rfl (Nat.le_of_ble_eq_true rfl) (fun z8 h8 p8 => ?_)
      obtain ⟨q8, rfl⟩ := p8
      have q8 := q8.symm
      subst q8
      rw [show (5 + 65 * 1 : Int).toNat = 70 from rfl]
      refine tl_bipush rfl rfl ?_
      refine tl_icmp_ne (tgt := 55) rfl rfl ⟨by omega, by omega⟩ ⟨by omega, by omega⟩ (fun c3 => ?_) (fun c3 => ?_)
      · skip
        show jT _ _ 55 _ _ _ _
        refine tl_aload_n rfl rfl ?_
        refine tl_bipush rfl rfl ?_
        refine tl_v1v (c9 := 12) (r_remember l _ 6 (by omega) (by omega)) rfl rfl rfl rfl rfl (Nat.le_of_ble_eq_true rfl) (fun hr pr => ?_)
        subst pr
        have e8 : Trem m 6 388 8 = m 388 8 := Trem_n (by decide)
        have e390 : Trem m 6 390 = m 390 := Trem_o (by decide) (by decide) (by decide)
        have e393 : Trem m 6 393 = m 393 := Trem_o (by decide) (by decide) (by decide)
        generalize gM : Trem m 6 = M at e8 e390 e393 ⊢
        refine tl_aload_n rfl rfl ?_
        refine tl_getr (c := 12) (k9 := 9) (b := 394) rfl rfl rfl rfl ?_
        refine tl_iconst rfl ?_
        refine tl_iload_n rfl rfl ?_
        show jT _ _ 67 _ _ _ _
        refine tl_iast (n := 64) rfl rfl rfl (by omega) (by omega) ?_
        rw [show Int.toNat 0 = 0 from rfl]
        refine tl_aload_n rfl rfl ?_
        refine tl_iload_n rfl rfl ?_
        refine tl_iconst rfl ?_
        refine tl_v2v (c9 := 12) (r_putIn l (hs M 394 0 v) p 1 (by omega) (by decide) (by rw [hs_o (by decide), e390]; omega) (by rw [hs_o (by decide), e390]; omega) (by rw [hs_o (by decide), e390]; omega)) rfl rfl rfl rfl rfl (Nat.le_of_ble_eq_true rfl) (fun ht9 pt9 => ?_)
        subst pt9
        refine tl_aload_n rfl rfl ?_
        refine tl_aload_n rfl rfl ?_
        show jT _ _ 76 _ _ _ _
        refine tl_iconst rfl ?_
        refine tl_v1i (c9 := 12) (c_sizeOf l _ 1 (by decide) (by decide)) rfl rfl rfl rfl rfl (Nat.le_of_ble_eq_true rfl) (fun z8 h8 p8 => ?_)
        obtain ⟨q8, rfl⟩ := p8
        have q8 := q8.symm
        subst q8
        rw [show (5 + 65 * 1 : Int).toNat = 70 from rfl]
        rw [Tputin, hw_s, Rput, if_pos rfl, hs_O (show (390 : Nat) ≠ 394 by decide)]
        change jT _ _ _ _ _ (Tputin (hs M 394 0 v) p 1) _
        rw [e390]
        refine tl_v1i (c9 := 12) (c_tell l _ _ ⟨by omega, by omega⟩ (by omega)) rfl rfl rfl rfl rfl (Nat.le_of_ble_eq_true rfl) (fun zt ht pt => ?_)
        obtain ⟨rfl, pt⟩ := pt
        refine tl_iret rfl ?_
        -- leaf 1 at 83
        refine ⟨_, rfl, ?_⟩
        rw [Dput]
        repeat (first | rw [if_pos (by omega)] | rw [if_neg (by omega)])
        rw [gM]
        exact ⟨rfl, pt⟩
      · show jT _ _ 48 _ _ _ _
        refine tl_aload_n rfl rfl ?_
        refine tl_bipush rfl rfl ?_
        refine tl_v1i (c9 := 12) (c_tell l _ _ ⟨by omega, by omega⟩ (by omega)) rfl rfl rfl rfl rfl (Nat.le_of_ble_eq_true rfl) (fun zt ht pt => ?_)
        obtain ⟨rfl, pt⟩ := pt
        show jT _ _ 54 _ _ _ _
        refine tl_iret rfl ?_
        -- leaf 2 at 54
        refine ⟨_, rfl, ?_⟩
        rw [Dput]
        repeat (first | rw [if_pos (by omega)] | rw [if_neg (by omega)])
        exact ⟨rfl, pt⟩
    · show jT _ _ 32 _ _ _ _
      refine tl_aload_n rfl rfl ?_
      refine tl_iconst rfl ?_
      refine tl_v1i (c9 := 12) (c_tell l _ _ ⟨by omega, by omega⟩ (by omega)) rfl rfl rfl rfl rfl (Nat.le_of_ble_eq_true rfl) (fun zt ht pt => ?_)
      obtain ⟨rfl, pt⟩ := pt
      refine tl_iret rfl ?_
      -- leaf 3 at 37
      refine ⟨_, rfl, ?_⟩
      rw [Dput]
      repeat (first | rw [if_pos (by omega)] | rw [if_neg (by omega)])
      exact ⟨rfl, pt⟩
