/-! cut, put: Row.takeOut, Row.putIn against the reference's -/
theorem IC.scr {h s s' : jH} {t : Int} (hI : IC h s t) (e : ∀ x, 388 ≤ x → x ≤ 393 → s' x = s x) : IC h s' t := by
  refine hI.row ?_ (hI.2.2.1.keep rfl rfl (by rw [e 388 (by decide) (by decide)]) (e _ (by decide) (by decide))) rfl (fun _ _ _ => rfl) rfl rfl rfl rfl (fun q _ _ => by rw [e 388 (by decide) (by decide)]) (e _ (by decide) (by decide)) (fun k _ => by rw [e 390 (by decide) (by decide)]) (e _ (by decide) (by decide)) (e _ (by decide) (by decide))
  rw [e 390 (by decide) (by decide)]
  exact hI.1
theorem cpy_d {f g : Nat → Int} {sp dp n : Nat} : (fun i => if i = dp then f sp else va_cpy f g (sp + 1) (dp + 1) n i) = va_cpy f g sp dp (n + 1) := by
  funext i
  simp only [va_cpy]
  by_cases h1 : i = dp
  · subst h1
    rw [if_pos rfl, if_pos (by omega)]
    exact congrArg f (by omega)
  · rw [if_neg h1]
    by_cases h2 : dp + 1 ≤ i ∧ i < dp + 1 + n
    · rw [if_pos h2, if_pos (by omega)]
      exact congrArg f (by omega)
    · rw [if_neg h2, if_neg (by omega)]
/-- takeOut(p, n) of the reference -/
def Rcut (R : Nat → Int) (p n : Int) : Nat → Int := fun i => if i = 70 then R 70 - n else va_cpy R R (71 + p + n).toNat (71 + p).toNat (R 70 - p - n).toNat i
def Ttake (s : jH) (p n : Int) : jH := hw (hw s 394 (va_cpy (s 390) (s 394) (71 + p).toNat 0 n.toNat)) 390 (Rcut (s 390) p n)
/-- putIn(p, n) of the reference -/
def Rput (R u : Nat → Int) (p n : Int) : Nat → Int := fun i => if i = 70 then R 70 + n else va_cpy u (va_cpy R R (71 + p).toNat (71 + p + n).toNat (R 70 - p).toNat) 0 (71 + p).toNat n.toNat i
def Tputin (s : jH) (p n : Int) : jH := hw s 390 (Rput (s 390) (s 394) p n)
theorem Ag.take {s s' : jH} (h : Ag s s') (p n : Int) : Ag (Ttake s p n) (Ttake s' p n) := by
  unfold Ttake
  rw [h 390 (by decide), h 394 (by decide)]
  exact (h.w1 rfl).w1 rfl
theorem Ag.putin {s s' : jH} (h : Ag s s') (p n : Int) : Ag (Tputin s p n) (Tputin s' p n) := by
  unfold Tputin
  rw [h 390 (by decide), h 394 (by decide)]
  exact h.w1 rfl
set_option maxRecDepth 20000 in
set_option maxHeartbeats 1000000 in
theorem r_take_A (l : Launch) (h : jH) (p n : Int) (p0 : 0 ≤ p) (n0 : 0 ≤ n) (hS : h 390 70 ≤ 64) (hpn : p + n ≤ h 390 70) (P : Option Value → jH → Prop) (hx : jT l 226 40 [some (.ref 388), some (.int (jI p)), some (.int (jI n)), some (.int (jI 70)), some (.int (jI ((n.toNat : Nat) : Int)))] [] (hw h 394 (va_cpy (h 390) (h 394) (71 + p).toNat 0 n.toNat)) P) : ∀ (m k : Nat), n.toNat - k < m → k ≤ n.toNat → jT l 226 8 [some (.ref 388), some (.int (jI p)), some (.int (jI n)), some (.int (jI 70)), some (.int (jI ((k : Nat) : Int)))] [] (hw h 394 (va_cpy (h 390) (h 394) (71 + p).toNat 0 k)) P := by
  intro m
  induction m with
  | zero => intro k hk; omega
  | succ m ih =>
    intro k hk hkK
    refine tl_iload rfl rfl ?_
    refine tl_iload_n rfl rfl ?_
    refine tl_icmp_ge (tgt := 40) rfl rfl ⟨by omega, by omega⟩ ⟨by omega, by omega⟩ (fun c1 => ?_) (fun c1 => ?_)
    · skip
      show jT _ _ 40 _ _ _ _
      -- leaf 0 at 40
      have e : k = n.toNat := by omega
      rw [e]
      exact hx
    · show jT _ _ 14 _ _ _ _
      refine tl_aload_n rfl rfl ?_
      refine tl_getr (c := 12) (k9 := 9) (b := 394) rfl rfl rfl rfl ?_
      refine tl_iload rfl rfl ?_
      show jT _ _ 20 _ _ _ _
      refine tl_aload_n rfl rfl ?_
      refine tl_getr (c := 12) (k9 := 3) (b := 390) rfl rfl rfl rfl ?_
      refine tl_iload_n rfl rfl ?_
      refine tl_iconst rfl ?_
      refine tl_iadd rfl ?_
      refine tl_iload_n rfl rfl ?_
      refine tl_iadd rfl ?_
      show jT _ _ 29 _ _ _ _
      refine tl_iload rfl rfl ?_
      refine tl_iadd rfl ?_
      refine tl_iald (n := 1362) rfl rfl rfl (by omega) (by omega) ?_
      rw [hw_o (show (390 : Nat) ≠ 394 by decide), show ((70 : Int) + 1 + p + (k : Int)).toNat = (71 + p).toNat + k by omega]
      refine tl_iast (n := 64) rfl rfl rfl (by omega) (by omega) ?_
      refine tl_iinc rfl rfl rfl ?_
      refine tl_goto (tgt := 8) rfl rfl ?_
      show jT _ _ 8 _ _ _ _
      -- leaf 1 at 8
      rw [hw_hs, Int.toNat_natCast]
      have e := cpy_s (f := h 390) (g := h 394) (sp := (71 + p).toNat) (dp := 0) (n := k)
      rw [Nat.zero_add] at e
      rw [e]
      exact ih (k + 1) (by omega) (by omega)
set_option maxRecDepth 20000 in
set_option maxHeartbeats 1000000 in
theorem r_take_B (l : Launch) (h : jH) (p n : Int) (p0 : 0 ≤ p) (n0 : 0 ≤ n) (hS : h 390 70 ≤ 64) (hpn : p + n ≤ h 390 70) (hn1 : 1 ≤ n) (P : Option Value → jH → Prop) (hx : jT l 226 86 [some (.ref 388), some (.int (jI p)), some (.int (jI n)), some (.int (jI 70)), some (.int (jI (p + n + (((h 390 70 - p - n).toNat : Nat) : Int))))] [] (hw h 390 (va_cpy (h 390) (h 390) (71 + p + n).toNat (71 + p).toNat (h 390 70 - p - n).toNat)) P) : ∀ (m k : Nat), (h 390 70 - p - n).toNat - k < m → k ≤ (h 390 70 - p - n).toNat → jT l 226 45 [some (.ref 388), some (.int (jI p)), some (.int (jI n)), some (.int (jI 70)), some (.int (jI (p + n + ((k : Nat) : Int))))] [] (hw h 390 (va_cpy (h 390) (h 390) (71 + p + n).toNat (71 + p).toNat k)) P := by
  intro m
  induction m with
  | zero => intro k hk; omega
  | succ m ih =>
    intro k hk hkK
    refine tl_iload rfl rfl ?_
    refine tl_aload_n rfl rfl ?_
    refine tl_getr (c := 12) (k9 := 3) (b := 390) rfl rfl rfl rfl ?_
    refine tl_iload_n rfl rfl ?_
    refine tl_iald (n := 1362) rfl rfl rfl (by omega) (by omega) ?_
    rw [hw_s, show Int.toNat 70 = 70 from rfl, va_cpy, if_neg (by omega)]
    refine tl_icmp_ge (tgt := 86) rfl rfl ⟨by omega, by omega⟩ ⟨by omega, by omega⟩ (fun c1 => ?_) (fun c1 => ?_)
    · skip
      show jT _ _ 86 _ _ _ _
      -- leaf 0 at 86
      have e : k = (h 390 70 - p - n).toNat := by omega
      rw [e]
      exact hx
    · show jT _ _ 56 _ _ _ _
      show jT _ _ 56 _ _ _ _
      refine tl_aload_n rfl rfl ?_
      refine tl_getr (c := 12) (k9 := 3) (b := 390) rfl rfl rfl rfl ?_
      refine tl_iload_n rfl rfl ?_
      refine tl_iconst rfl ?_
      refine tl_iadd rfl ?_
      refine tl_iload rfl rfl ?_
      refine tl_iadd rfl ?_
      show jT _ _ 66 _ _ _ _
      refine tl_iload_n rfl rfl ?_
      refine tl_isub rfl ?_
      refine tl_aload_n rfl rfl ?_
      refine tl_getr (c := 12) (k9 := 3) (b := 390) rfl rfl rfl rfl ?_
      refine tl_iload_n rfl rfl ?_
      refine tl_iconst rfl ?_
      refine tl_iadd rfl ?_
      show jT _ _ 75 _ _ _ _
      refine tl_iload rfl rfl ?_
      refine tl_iadd rfl ?_
      refine tl_iald (n := 1362) rfl rfl rfl (by omega) (by omega) ?_
      rw [hw_s, show ((70 : Int) + 1 + (p + n + (k : Int))).toNat = (71 + p + n).toNat + k by omega, va_cpy, if_neg (by omega)]
      refine tl_iast (n := 1362) rfl rfl rfl (by omega) (by omega) ?_
      refine tl_iinc rfl rfl rfl ?_
      refine tl_goto (tgt := 45) rfl rfl ?_
      show jT _ _ 45 _ _ _ _
      -- leaf 1 at 45
      rw [hw_hs, show ((70 : Int) + 1 + (p + n + (k : Int)) - n).toNat = (71 + p).toNat + k by omega, show (fun i => if i = (71 + p).toNat + k then h 390 ((71 + p + n).toNat + k) else va_cpy (h 390) (h 390) (71 + p + n).toNat (71 + p).toNat k i) = _ from cpy_s]
      have := ih (k + 1) (by omega) (by omega)
      rw [show p + n + ((k + 1 : Nat) : Int) = p + n + (k : Int) + 1 by omega] at this
      exact this
set_option maxRecDepth 20000 in
set_option maxHeartbeats 1000000 in
theorem r_takeOut (l : Launch) (h : jH) (p n : Int) (p0 : 0 ≤ p) (n0 : 0 ≤ n) (hS : h 390 70 ≤ 64) (hpn : p + n ≤ h 390 70) (hn1 : 1 ≤ n) : cV l 226 [.ref 388, .int (jI p), .int (jI n)] h (fun h' => h' = Ttake h p n) := by
  refine cV.of rfl rfl ?_
  refine tl_iconst rfl ?_
  refine tl_s1i (c_fileAt l _ 1) rfl rfl rfl (Nat.le_of_ble_eq_true rfl) (fun z6 h6 p6 => ?_)
  obtain ⟨q6, rfl⟩ := p6
  have q6 := q6.symm
  subst q6
  rw [show (5 + 65 * 1 : Int) = 70 from rfl]
  refine tl_istore_n rfl (Nat.le_of_ble_eq_true rfl) rfl ?_
  refine tl_iconst rfl ?_
  refine tl_istore rfl (Nat.le_of_ble_eq_true rfl) rfl ?_
  show jT _ _ 8 _ _ _ _
  -- leaf 0 at 8
  have e0 : h = hw h 394 (va_cpy (h 390) (h 394) (71 + p).toNat 0 0) := by rw [cpy_0, hw_self]
  refine Eq.mpr (congrArg (fun q => jT l 226 8 [some (.ref 388), some (.int (jI p)), some (.int (jI n)), some (.int (jI 70)), some (.int (jI ((0 : Nat) : Int)))] [] q _) e0) ?_
  refine r_take_A l h p n p0 n0 hS hpn _ ?_ _ 0 (Nat.lt_succ_self _) (Nat.zero_le _)
  refine tl_iload_n rfl rfl ?_
  refine tl_iload_n rfl rfl ?_
  refine tl_iadd rfl ?_
  refine tl_istore rfl (Nat.le_of_ble_eq_true rfl) rfl ?_
  show jT _ _ 45 _ _ _ _
  -- leaf 0 at 45
  generalize g4 : hw h 394 (va_cpy (h 390) (h 394) (71 + p).toNat 0 n.toNat) = m4
  have e4 : m4 390 = h 390 := by rw [← g4, hw_o (by decide)]
  have e0 : m4 = hw m4 390 (va_cpy (m4 390) (m4 390) (71 + p + n).toNat (71 + p).toNat 0) := by rw [cpy_0, hw_self]
  rw [show p + n = p + n + ((0 : Nat) : Int) by omega]
  refine Eq.mpr (congrArg (fun q => jT l 226 45 [some (.ref 388), some (.int (jI p)), some (.int (jI n)), some (.int (jI 70)), some (.int (jI (p + n + ((0 : Nat) : Int))))] [] q _) e0) ?_
  refine r_take_B l m4 p n p0 n0 (by rw [e4]; omega) (by rw [e4]; omega) hn1 _ ?_ _ 0 (Nat.lt_succ_self _) (Nat.zero_le _)
  have e70 : m4 390 70 = h 390 70 := by rw [e4]
  refine tl_aload_n rfl rfl ?_
  refine tl_getr (c := 12) (k9 := 3) (b := 390) rfl rfl rfl rfl ?_
  refine tl_iload_n rfl rfl ?_
  refine tl_dup2 rfl rfl rfl ?_
  refine tl_iald (n := 1362) rfl rfl rfl (by omega) (by omega) ?_
  rw [hw_s, show Int.toNat 70 = 70 from rfl, va_cpy, if_neg (by omega)]
  refine tl_iload_n rfl rfl ?_
  show jT _ _ 94 _ _ _ _
  refine tl_isub rfl ?_
  refine tl_iast (n := 1362) rfl rfl rfl (by omega) (by omega) ?_
  refine tl_ret rfl ?_
  -- leaf 0 at 96
  refine ⟨rfl, ?_⟩
  rw [show Int.toNat 70 = 70 from rfl, hw_hs, Ttake]
  rw [← g4]
  rw [hw_o (show (390 : Nat) ≠ 394 by decide)]
  rfl
set_option maxRecDepth 20000 in
set_option maxHeartbeats 1000000 in
theorem c_Row_takeOut (l : Launch) {r a n : Nat} (hS : RowS r a n) (h : jH) (i q : Int) (h1 : h r 1 ≤ (n : Int)) (i0 : 0 ≤ i) (q0 : 0 ≤ q) (iq : i + q ≤ h r 1) : cV l 105 [.ref r, .int (jI i), .int (jI q)] h (fun h' => h' = hs (hw h a (va_cpy (h a) (h a) (i + q).toNat i.toNat (h r 1 - i - q).toNat)) r 1 (h r 1 - q)) := by
  have hne := hS.ne
  have hle := hS.le
  refine cV.of rfl rfl ?_
  refine tl_iload_n rfl rfl ?_
  refine tl_if_lt (tgt := 26) rfl rfl ⟨by omega, by omega⟩ (fun c1 => ?_) (fun c1 => ?_)
  · skip
    refine tl_ret rfl ?_
    -- leaf 0 at 26
    exfalso; omega
  · show jT _ _ 4 _ _ _ _
    refine tl_iload_n rfl rfl ?_
    refine tl_if_lt (tgt := 26) rfl rfl ⟨by omega, by omega⟩ (fun c2 => ?_) (fun c2 => ?_)
    · skip
      refine tl_ret rfl ?_
      -- leaf 1 at 26
      exfalso; omega
    · show jT _ _ 8 _ _ _ _
      show jT _ _ 8 _ _ _ _
      refine tl_iload_n rfl rfl ?_
      refine tl_aload_n rfl rfl ?_
      refine tl_geti (c := 8) (k9 := 1) rfl hS.1 rfl ?_
      refine tl_icmp_gt (tgt := 26) rfl rfl ⟨by omega, by omega⟩ ⟨by omega, by omega⟩ (fun c3 => ?_) (fun c3 => ?_)
      · skip
        refine tl_ret rfl ?_
        -- leaf 2 at 26
        exfalso; omega
      · show jT _ _ 16 _ _ _ _
        refine tl_iload_n rfl rfl ?_
        refine tl_aload_n rfl rfl ?_
        show jT _ _ 18 _ _ _ _
        refine tl_geti (c := 8) (k9 := 1) rfl hS.1 rfl ?_
        refine tl_iload_n rfl rfl ?_
        refine tl_isub rfl ?_
        refine tl_icmp_le (tgt := 27) rfl rfl ⟨by omega, by omega⟩ ⟨by omega, by omega⟩ (fun c4 => ?_) (fun c4 => ?_)
        · skip
          refine tl_aload_n rfl rfl ?_
          refine tl_getr (c := 8) (k9 := 0) rfl hS.1 rfl hS.2.1 ?_
          refine tl_iload_n rfl rfl ?_
          show jT _ _ 32 _ _ _ _
          refine tl_iload_n rfl rfl ?_
          refine tl_iadd rfl ?_
          refine tl_aload_n rfl rfl ?_
          refine tl_getr (c := 8) (k9 := 0) rfl hS.1 rfl hS.2.1 ?_
          refine tl_iload_n rfl rfl ?_
          refine tl_aload_n rfl rfl ?_
          refine tl_geti (c := 8) (k9 := 1) rfl hS.1 rfl ?_
          show jT _ _ 43 _ _ _ _
          refine tl_iload_n rfl rfl ?_
          refine tl_isub rfl ?_
          refine tl_iload_n rfl rfl ?_
          refine tl_isub rfl ?_
          refine tl_copy rfl hS.2.2.1 hS.2.2.1 hS.2.2.2 hS.2.2.2 (by omega) (by omega) (by omega) (by omega) (by omega) (Nat.le_of_ble_eq_true rfl) rfl ?_
          refine tl_aload_n rfl rfl ?_
          refine tl_dup rfl rfl ?_
          show jT _ _ 52 _ _ _ _
          refine tl_geti (c := 8) (k9 := 1) rfl hS.1 rfl ?_
          rw [hw_o hne]
          refine tl_iload_n rfl rfl ?_
          refine tl_isub rfl ?_
          refine tl_puti (c := 8) (k9 := 1) rfl rfl hS.1 rfl ?_
          refine tl_ret rfl ?_
          -- leaf 3 at 60
          exact ⟨rfl, rfl⟩
        · show jT _ _ 26 _ _ _ _
          refine tl_ret rfl ?_
          -- leaf 4 at 26
          exfalso; omega
def areS (s : jH) (p n : Int) : Prop := 0 ≤ p ∧ 1 ≤ n ∧ p + n ≤ s 390 70
def Dcut (s : jH) (p n : Int) : Int × jH := if 0 ≤ p ∧ 1 ≤ n ∧ p + n ≤ s 390 70 then dT (Ttake (Trem s 5) p n) (s 390 70 - n) else dT s (-1)
theorem Ag.cut {s s' : jH} (h : Ag s s') (p n : Int) : AgD (Dcut s p n) (Dcut s' p n) := by
  unfold Dcut
  rw [h 390 (by decide)]
  split
  · exact ((h.rem _).take _ _).d _
  · exact h.d _
theorem IC.cut {h s : jH} {t p n : Int} (hI : IC h s t) (p0 : 0 ≤ p) (n0 : 1 ≤ n) (pn : p + n ≤ s 390 70) : IC (hs (hw h 5 (va_cpy (h 5) (h 5) (p + n).toNat p.toNat (h 4 1 - p - n).toNat)) 4 1 (h 4 1 - n)) (Ttake s p n) t := by
  have hF : RSf h 4 (s 390) 70 := hI.1.1 1 (by decide)
  obtain ⟨a1, a2, a3, a4⟩ := hF
  have hI2 : IC h (hw s 394 (va_cpy (s 390) (s 394) (71 + p).toNat 0 n.toNat)) t := hI.scr (fun x _ _ => hw_o (by omega))
  refine hI2.file_upd 1 (by decide) ⟨?_, ?_, ?_, fun i hi => ?_⟩ ⟨fun x hx => hw_o hx, fun i hi => ?_⟩ (fun x _ x1 x2 => ?_) (fun z => by omega)
  · rw [Ttake, hw_s, Rcut, if_pos rfl, hs_s, a1]
  · rw [Ttake, hw_s, Rcut, if_pos rfl]; omega
  · rw [Ttake, hw_s, Rcut, if_pos rfl]; omega
  · rw [Ttake, hw_s, Rcut, if_pos rfl] at hi
    rw [hs_o (by omega), Ttake, hw_s, hw_s, Rcut, if_neg (by omega), va_cpy, va_cpy, a1]
    by_cases e : p.toNat ≤ i
    · rw [if_pos (by omega), if_pos (by omega)]
      have := a4 ((p + n).toNat + (i - p.toNat)) (by omega)
      rw [show 70 + 1 + ((p + n).toNat + (i - p.toNat)) = (71 + p + n).toNat + (5 + 65 * 1 + 1 + i - (71 + p).toNat) by omega] at this
      exact this
    · rw [if_neg (by omega), if_neg (by omega)]
      exact a4 i (by omega)
  · rw [hw_o (show (390 : Nat) ≠ 394 by decide), Ttake, hw_s, Rcut, if_neg (by omega), va_cpy, if_neg (by omega)]
  · rw [hs_O x1, hw_o x2]
set_option maxRecDepth 20000 in
set_option maxHeartbeats 1000000 in
theorem k_areSpots (l : Launch) (h s : jH) (t p n : Int) (hI : IC h s t) (hp : jr p) (hn : jr n) : cI l 189 [.ref 0, .int (jI p), .int (jI n)] h (fun z h' => h' = h ∧ z = if 0 ≤ p ∧ 1 ≤ n ∧ p + n ≤ s 390 70 then 1 else 0) := by
  have p1 := hp.1
  have p2 := hp.2
  have n1 := hn.1
  have n2 := hn.2
  have hF : RSf h 4 (s 390) 70 := hI.1.1 1 (by decide)
  obtain ⟨a1, a2, a3, a4⟩ := hF
  refine cI.ofZ rfl rfl ?_
  refine tl_iload_n rfl rfl ?_
  refine tl_if_lt (tgt := 43) rfl rfl ⟨by omega, by omega⟩ (fun c1 => ?_) (fun c1 => ?_)
  · skip
    refine tl_iconst rfl ?_
    refine tl_iret rfl ?_
    -- leaf 0 at 44
    refine ⟨_, rfl, by omega, rfl, ?_⟩
    first | (rw [if_pos (by omega)]) | (rw [if_neg (by omega)])
  · show jT _ _ 4 _ _ _ _
    refine tl_iload_n rfl rfl ?_
    refine tl_iconst rfl ?_
    show jT _ _ 6 _ _ _ _
    refine tl_icmp_lt (tgt := 43) rfl rfl ⟨by omega, by omega⟩ ⟨by omega, by omega⟩ (fun c2 => ?_) (fun c2 => ?_)
    · skip
      refine tl_iconst rfl ?_
      refine tl_iret rfl ?_
      -- leaf 1 at 44
      refine ⟨_, rfl, by omega, rfl, ?_⟩
      first | (rw [if_pos (by omega)]) | (rw [if_neg (by omega)])
    · show jT _ _ 9 _ _ _ _
      refine tl_iload_n rfl rfl ?_
      refine tl_aload_n rfl rfl ?_
      refine tl_getr (c := 11) (k9 := 0) (b := 1) rfl rfl rfl rfl ?_
      refine tl_getr (c := 9) (k9 := 1) (b := 4) rfl rfl rfl rfl ?_
      show jT _ _ 17 _ _ _ _
      refine tl_geti (c := 8) (k9 := 1) rfl rfl rfl ?_
      rw [a1]
      refine tl_icmp_ge (tgt := 43) rfl rfl ⟨by omega, by omega⟩ ⟨by omega, by omega⟩ (fun c3 => ?_) (fun c3 => ?_)
      · skip
        refine tl_iconst rfl ?_
        refine tl_iret rfl ?_
        -- leaf 2 at 44
        refine ⟨_, rfl, by omega, rfl, ?_⟩
        first | (rw [if_pos (by omega)]) | (rw [if_neg (by omega)])
      · show jT _ _ 23 _ _ _ _
        refine tl_iload_n rfl rfl ?_
        refine tl_aload_n rfl rfl ?_
        refine tl_getr (c := 11) (k9 := 0) (b := 1) rfl rfl rfl rfl ?_
        show jT _ _ 28 _ _ _ _
        refine tl_getr (c := 9) (k9 := 1) (b := 4) rfl rfl rfl rfl ?_
        refine tl_geti (c := 8) (k9 := 1) rfl rfl rfl ?_
        rw [a1]
        refine tl_iload_n rfl rfl ?_
        refine tl_isub rfl ?_
        refine tl_icmp_gt (tgt := 43) rfl rfl ⟨by omega, by omega⟩ ⟨by omega, by omega⟩ (fun c4 => ?_) (fun c4 => ?_)
        · skip
          refine tl_iconst rfl ?_
          refine tl_iret rfl ?_
          -- leaf 3 at 44
          refine ⟨_, rfl, by omega, rfl, ?_⟩
          first | (rw [if_pos (by omega)]) | (rw [if_neg (by omega)])
        · show jT _ _ 39 _ _ _ _
          show jT _ _ 39 _ _ _ _
          refine tl_iconst rfl ?_
          refine tl_goto (tgt := 44) rfl rfl ?_
          refine tl_iret rfl ?_
          -- leaf 4 at 44
          refine ⟨_, rfl, by omega, rfl, ?_⟩
          first | (rw [if_pos (by omega)]) | (rw [if_neg (by omega)])
set_option maxRecDepth 20000 in
set_option maxHeartbeats 1000000 in
theorem r_areThere (l : Launch) (g h : jH) (t p n : Int) (hI : IC g h t) (hp : jr p) (hn : jr n) : cI l 225 [.ref 388, .int (jI p), .int (jI n)] h (fun z h' => h' = h ∧ z = if 0 ≤ p ∧ 1 ≤ n ∧ p + n ≤ h 390 70 then 1 else 0) := by
  have p1 := hp.1
  have p2 := hp.2
  have n1 := hn.1
  have n2 := hn.2
  have hF : RSf g 4 (h 390) 70 := hI.1.1 1 (by decide)
  obtain ⟨a1, a2, a3, a4⟩ := hF
  refine cI.ofZ rfl rfl ?_
  refine tl_iload_n rfl rfl ?_
  refine tl_if_lt (tgt := 28) rfl rfl ⟨by omega, by omega⟩ (fun c1 => ?_) (fun c1 => ?_)
  · skip
    refine tl_iconst rfl ?_
    refine tl_iret rfl ?_
    -- leaf 0 at 29
    refine ⟨_, rfl, by omega, rfl, ?_⟩
    first | (rw [if_pos (by omega)]) | (rw [if_neg (by omega)])
  · show jT _ _ 4 _ _ _ _
    refine tl_iload_n rfl rfl ?_
    refine tl_iconst rfl ?_
    show jT _ _ 6 _ _ _ _
    refine tl_icmp_lt (tgt := 28) rfl rfl ⟨by omega, by omega⟩ ⟨by omega, by omega⟩ (fun c2 => ?_) (fun c2 => ?_)
    · skip
      refine tl_iconst rfl ?_
      refine tl_iret rfl ?_
      -- leaf 1 at 29
      refine ⟨_, rfl, by omega, rfl, ?_⟩
      first | (rw [if_pos (by omega)]) | (rw [if_neg (by omega)])
    · show jT _ _ 9 _ _ _ _
      refine tl_iload_n rfl rfl ?_
      refine tl_i2l rfl ⟨by omega, by omega⟩ ?_
      refine tl_iload_n rfl rfl ?_
      refine tl_i2l rfl ⟨by omega, by omega⟩ ?_
      show jT _ _ 13 _ _ _ _
      refine tl_ladd rfl ?_
      refine tl_aload_n rfl rfl ?_
      refine tl_iconst rfl ?_
      refine tl_v1i (c9 := 12) (c_sizeOf l _ 1 (by decide) (by decide)) rfl rfl rfl rfl rfl (Nat.le_of_ble_eq_true rfl) (fun z8 h8 p8 => ?_)
      obtain ⟨q8, rfl⟩ := p8
      have q8 := q8.symm
      subst q8
      rw [show (5 + 65 * 1 : Int).toNat = 70 from rfl]
      refine tl_i2l rfl ⟨by omega, by omega⟩ ?_
      refine tl_lcmp rfl ⟨by omega, by omega⟩ ⟨by omega, by omega⟩ ?_
      refine tl_if_gt (tgt := 28) rfl rfl ⟨by omega, by omega⟩ (fun c3 => ?_) (fun c3 => ?_)
      · skip
        show jT _ _ 28 _ _ _ _
        refine tl_iconst rfl ?_
        refine tl_iret rfl ?_
        -- leaf 2 at 29
        refine ⟨_, rfl, by omega, rfl, ?_⟩
        first | (rw [if_pos (by omega)]) | (rw [if_neg (by omega)])
      · show jT _ _ 24 _ _ _ _
        refine tl_iconst rfl ?_
        refine tl_goto (tgt := 29) rfl rfl ?_
        refine tl_iret rfl ?_
        -- leaf 3 at 29
        refine ⟨_, rfl, by omega, rfl, ?_⟩
        first | (rw [if_pos (by omega)]) | (rw [if_neg (by omega)])
set_option maxRecDepth 20000 in
set_option maxHeartbeats 1000000 in
theorem k_cut (l : Launch) (h s : jH) (t p n : Int) (hI : IC h s t) (hp : jr p) (hn : jr n) : cI l 148 [.ref 0, .int (jI p), .int (jI n)] h (PK h t (Dcut s p n)) := by
  have p1 := hp.1
  have p2 := hp.2
  have n1 := hn.1
  have n2 := hn.2
  have hF : RSf h 4 (s 390) 70 := hI.1.1 1 (by decide)
  obtain ⟨a1, a2, a3, a4⟩ := hF
  refine cI.of rfl rfl ?_
  refine tl_aload_n rfl rfl ?_
  refine tl_iload_n rfl rfl ?_
  refine tl_iload_n rfl rfl ?_
  refine tl_v2i (c9 := 11) (k_areSpots l h s t p n hI hp hn) rfl rfl rfl rfl rfl (Nat.le_of_ble_eq_true rfl) (fun zs hs9 ps => ?_)
  obtain ⟨qs, ps⟩ := ps
  have qs := qs.symm
  subst qs
  have bs : zs = 0 ∨ zs = 1 := by rw [ps]; split <;> omega
  refine tl_if_ne (tgt := 15) rfl rfl ⟨by omega, by omega⟩ (fun c1 => ?_) (fun c1 => ?_)
  · skip
    refine tl_aload_n rfl rfl ?_
    show jT _ _ 16 _ _ _ _
    refine tl_iconst rfl ?_
    refine tl_v1v (c9 := 11) (k_keep l _ s t 5 hI (by decide) (by decide)) rfl rfl rfl rfl rfl (Nat.le_of_ble_eq_true rfl) (fun h1 p1 => ?_)
    obtain ⟨i1, f1⟩ := p1
    have e8 : Trem s 5 388 8 = s 388 8 := Trem_n (by decide)
    have e390 : Trem s 5 390 = s 390 := Trem_o (by decide) (by decide) (by decide)
    have e393 : Trem s 5 393 = s 393 := Trem_o (by decide) (by decide) (by decide)
    have m1 : h1 4 1 = s 390 70 := by rw [f1 4 (by omega)]; exact a1
    have cp : 0 ≤ p ∧ 1 ≤ n ∧ p + n ≤ s 390 70 := by omega
    refine tl_aload_n rfl rfl ?_
    refine tl_getr (c := 11) (k9 := 0) (b := 1) rfl rfl rfl rfl ?_
    refine tl_getr (c := 9) (k9 := 1) (b := 4) rfl rfl rfl rfl ?_
    refine tl_iload_n rfl rfl ?_
    refine tl_iload_n rfl rfl ?_
    show jT _ _ 29 _ _ _ _
    refine tl_v2v (c9 := 8) (c_Row_takeOut l (RSf_S 1 (by decide)) h1 p n (by show h1 4 1 ≤ _; omega) (by omega) (by omega) (by show p + n ≤ h1 4 1; omega)) rfl rfl rfl rfl rfl (Nat.le_of_ble_eq_true rfl) (fun h2 p2 => ?_)
    have p3 : h2 = hs (hw h1 5 (va_cpy (h1 5) (h1 5) (p + n).toNat p.toNat (h1 4 1 - p - n).toNat)) 4 1 (h1 4 1 - n) := p2
    subst p3
    refine tl_aload_n rfl rfl ?_
    refine tl_aload_n rfl rfl ?_
    refine tl_getr (c := 11) (k9 := 0) (b := 1) rfl rfl rfl rfl ?_
    refine tl_getr (c := 9) (k9 := 1) (b := 4) rfl rfl rfl rfl ?_
    refine tl_geti (c := 8) (k9 := 1) rfl rfl rfl ?_
    rw [hs_s, m1]
    refine tl_v1i (c9 := 11) (k_accept l _ _) rfl rfl rfl rfl rfl (Nat.le_of_ble_eq_true rfl) (fun za ha pa => ?_)
    obtain ⟨rfl, rfl⟩ := pa
    show jT _ _ 46 _ _ _ _
    refine tl_iret rfl ?_
    -- leaf 0 at 46
    refine ⟨_, rfl, ?_⟩
    rw [Dcut]
    repeat (first | rw [if_pos (by omega)] | rw [if_neg (by omega)])
    have i2 := i1.cut cp.1 cp.2.1 (by rw [e390]; omega)
    rw [m1] at i2
    exact PK.acc i2 (by omega) (fun x hx => by rw [hs_O (by omega), hw_o (by omega), f1 x (by omega)])
  · show jT _ _ 9 _ _ _ _
    refine tl_aload_n rfl rfl ?_
    refine tl_iconst rfl ?_
    refine tl_v1i (c9 := 11) (k_refuse l _ _ (by omega) (by omega)) rfl rfl rfl rfl rfl (Nat.le_of_ble_eq_true rfl) (fun zr hr pr => ?_)
    obtain ⟨rfl, rfl⟩ := pr
    refine tl_iret rfl ?_
    -- leaf 1 at 14
    refine ⟨_, rfl, ?_⟩
    rw [Dcut]
    repeat (first | rw [if_pos (by omega)] | rw [if_neg (by omega)])
    exact PK.ref hI (by omega) (by omega)
set_option maxRecDepth 20000 in
set_option maxHeartbeats 1000000 in
theorem r_cut (l : Launch) (g h : jH) (t p n : Int) (hI0 : IC g h t) (hp : jr p) (hn : jr n) : cI l 228 [.ref 388, .int (jI p), .int (jI n)] h (PR (Dcut (Tz h) p n)) := by
  have p1 := hp.1
  have p2 := hp.2
  have n1 := hn.1
  have n2 := hn.2
  refine cI.of rfl rfl ?_
  refine tl_aload_n rfl rfl ?_
  refine tl_iconst rfl ?_
  refine tl_puti (c := 12) (k9 := 0) rfl rfl rfl rfl ?_
  have hI := hI0.z
  change jT _ _ _ _ _ (Tz h) _
  generalize Tz h = m at hI ⊢
  have nu := hI.nund
  have hF : RSf g 4 (m 390) 70 := hI.1.1 1 (by decide)
  obtain ⟨a1, a2, a3, a4⟩ := hF
  refine tl_aload_n rfl rfl ?_
  refine tl_iload_n rfl rfl ?_
  refine tl_iload_n rfl rfl ?_
  show jT _ _ 8 _ _ _ _
  refine tl_v2i (c9 := 12) (r_areThere l g _ t p n hI hp hn) rfl rfl rfl rfl rfl (Nat.le_of_ble_eq_true rfl) (fun zs hs9 ps => ?_)
  obtain ⟨qs, ps⟩ := ps
  have qs := qs.symm
  subst qs
  have bs : zs = 0 ∨ zs = 1 := by rw [ps]; split <;> omega
  refine tl_if_ne (tgt := 20) rfl rfl ⟨by omega, by omega⟩ (fun c1 => ?_) (fun c1 => ?_)
  · skip
    refine tl_aload_n rfl rfl ?_
    refine tl_iconst rfl ?_
    refine tl_v1v (c9 := 12) (r_remember l _ 5 (by omega) (by omega)) rfl rfl rfl rfl rfl (Nat.le_of_ble_eq_true rfl) (fun hr pr => ?_)
    subst pr
    have e8 : Trem m 5 388 8 = m 388 8 := Trem_n (by decide)
    have e390 : Trem m 5 390 = m 390 := Trem_o (by decide) (by decide) (by decide)
    have e393 : Trem m 5 393 = m 393 := Trem_o (by decide) (by decide) (by decide)
    generalize gM : Trem m 5 = M at e8 e390 e393 ⊢
    refine tl_aload_n rfl rfl ?_
    refine tl_iload_n rfl rfl ?_
    show jT _ _ 27 _ _ _ _
    refine tl_iload_n rfl rfl ?_
    refine tl_v2v (c9 := 12) (r_takeOut l M p n (by omega) (by omega) (by rw [e390]; omega) (by rw [e390]; omega) (by omega)) rfl rfl rfl rfl rfl (Nat.le_of_ble_eq_true rfl) (fun ht9 pt9 => ?_)
    subst pt9
    refine tl_aload_n rfl rfl ?_
    refine tl_aload_n rfl rfl ?_
    refine tl_iconst rfl ?_
    refine tl_v1i (c9 := 12) (c_sizeOf l _ 1 (by decide) (by decide)) rfl rfl rfl rfl rfl (Nat.le_of_ble_eq_true rfl) (fun z8 h8 p8 => ?_)
    obtain ⟨q8, rfl⟩ := p8
    have q8 := q8.symm
    subst q8
    rw [show (5 + 65 * 1 : Int).toNat = 70 from rfl, Ttake, hw_s, Rcut, if_pos rfl, e390, ← e390]
    change jT _ _ _ _ _ (Ttake M p n) _
    rw [e390]
    refine tl_v1i (c9 := 12) (c_tell l _ _ ⟨by omega, by omega⟩ (by omega)) rfl rfl rfl rfl rfl (Nat.le_of_ble_eq_true rfl) (fun zt ht pt => ?_)
    obtain ⟨rfl, pt⟩ := pt
    show jT _ _ 40 _ _ _ _
    refine tl_iret rfl ?_
    -- leaf 0 at 40
    refine ⟨_, rfl, ?_⟩
    rw [Dcut]
    repeat (first | rw [if_pos (by omega)] | rw [if_neg (by omega)])
    rw [gM]
    exact ⟨rfl, pt⟩
  · show jT _ _ 14 _ _ _ _
    refine tl_aload_n rfl rfl ?_
    refine tl_iconst rfl ?_
    refine tl_v1i (c9 := 12) (c_tell l _ _ ⟨by omega, by omega⟩ (by omega)) rfl rfl rfl rfl rfl (Nat.le_of_ble_eq_true rfl) (fun zt ht pt => ?_)
    obtain ⟨rfl, pt⟩ := pt
    refine tl_iret rfl ?_
    -- leaf 1 at 19
    refine ⟨_, rfl, ?_⟩
    rw [Dcut]
    repeat (first | rw [if_pos (by omega)] | rw [if_neg (by omega)])
    exact ⟨rfl, pt⟩
