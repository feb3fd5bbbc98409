/-! undo, advance, swap, bar -/
def Tundo (s : jH) : jH := hw (hs s 388 6 (s 388 6 - 1)) 390 (va_cpy (s 391) (s 390) (1357 * (s 388 6 - 1).toNat) 5 1357)
def Dundo (s : jH) : Int × jH := if s 388 6 = 0 then dT s (-4) else dT (Tundo s) (s 392 (s 388 6 - 1).toNat)
def Dadv (s : jH) : Int × jH := if s 390 1167 = 1 then dT s (-4) else dT (hw (Trem s 18) 390 (va_cpy (s 390) (s 390) 135 5 65)) (s 390 135)
def swp (R : Nat → Int) (k : Nat) : Nat → Int := fun i => if 5 ≤ i ∧ i < 5 + k then R (i + 65) else if 70 ≤ i ∧ i < 70 + k then R (i - 65) else R i
def Dswap (s : jH) : Int × jH := if s 390 1167 = 1 then dT s (-4) else dT (hw (Trem s 17) 390 (swp (s 390) 65)) (s 390 70)
def sm (f : Nat → Int) : Nat → Int
  | 0 => 0
  | n + 1 => sm f n + f n
def Dbar (s : jH) (p y : Int) : Int × jH := if p < 0 ∨ 63 < p ∨ y < 0 ∨ 1 < y then dT s (-1) else if s 390 (1103 + p).toNat = y then dT s (-4) else dT (hs (Trem s 2) 390 (1103 + p).toNat y) (sm (fun i => hs (Trem s 2) 390 (1103 + p).toNat y 390 (1103 + i)) 64)
theorem Ag.undo {s s' : jH} (h : Ag s s') : AgD (Dundo s) (Dundo s') := by
  unfold Dundo Tundo
  rw [h 388 (by decide), h 390 (by decide), h 391 (by decide), h 392 (by decide)]
  split
  · exact h.d _
  · exact ((h.s1 rfl).w1 rfl).d _
theorem Ag.adv {s s' : jH} (h : Ag s s') : AgD (Dadv s) (Dadv s') := by
  unfold Dadv
  rw [h 390 (by decide)]
  split
  · exact h.d _
  · exact ((h.rem _).w1 rfl).d _
theorem Ag.swap {s s' : jH} (h : Ag s s') : AgD (Dswap s) (Dswap s') := by
  unfold Dswap
  rw [h 390 (by decide)]
  split
  · exact h.d _
  · exact ((h.rem _).w1 rfl).d _
theorem Ag.bar {s s' : jH} (h : Ag s s') (p y : Int) : AgD (Dbar s p y) (Dbar s' p y) := by
  unfold Dbar
  rw [h 390 (by decide), ((h.rem 2).s1 (a := 390) (k := (1103 + p).toNat) (v := y) rfl) 390 (by decide)]
  split
  · exact h.d _
  · split
    · exact h.d _
    · exact ((h.rem _).s1 rfl).d _
theorem IC.undo {h h2 s : jH} {t : Int} (hI : IC h s t) (n0 : 0 < s 388 6) (hR : RS h2 1 (fun i => s 391 (1357 * (s 388 6 - 1).toNat + i - 5))) (fr : ∀ x, x < 1 ∨ 19 ≤ x → h2 x = hs h 0 4 (s 388 6 - 1) x) : IC h2 (Tundo s) t := by
  obtain ⟨-, ⟨u1, u2, u3, u4, u5, u6⟩, hT, hN⟩ := hI
  have a0 : ∀ q, q ≠ 4 → h2 0 q = h 0 q := fun q hq => by rw [fr 0 (by decide), hs_k hq]
  have a4 : h2 0 4 = s 388 6 - 1 := by rw [fr 0 (by decide), hs_s]
  have a1 : ∀ x, 19 ≤ x → h2 x = h x := fun x hx => by rw [fr x (by omega), hs_O (by omega)]
  have b6 : Tundo s 388 6 = s 388 6 - 1 := by rw [Tundo, hw_o (by decide), hs_s]
  have b0 : ∀ q, q ≠ 6 → Tundo s 388 q = s 388 q := fun q hq => by rw [Tundo, hw_o (by decide), hs_k hq]
  have b1 : ∀ x, x ≠ 388 → x ≠ 390 → Tundo s x = s x := fun x h0 h1 => by rw [Tundo, hw_o h1, hs_O h0]
  have b2 : ∀ i, i < 5 → Tundo s 390 i = s 390 i := fun i hi => by rw [Tundo, hw_s, va_cpy, if_neg (by omega)]
  refine ⟨hR.congr (fun i i1 i2 => ?_), ⟨?_, ?_, ?_, ?_, ?_, fun k hk => ?_⟩, ?_, ?_⟩
  · rw [Tundo, hw_s, va_cpy, if_pos (by omega)]
    exact congrArg (s 391) (by omega)
  · rw [a4, b6]
  · rw [b6]; omega
  · rw [b6]; omega
  · rw [a0 3 (by decide)]; exact u4
  · rw [a0 3 (by decide)]; exact u5
  · rw [b6] at hk
    rw [a0 3 (by decide), b1 391 (by decide) (by decide), b1 392 (by decide) (by decide), a1 308 (by decide)]
    obtain ⟨v1, v2⟩ := u6 k (by omega)
    have hm : ((h 0 3).toNat + k) % 16 < 16 := Nat.mod_lt _ (by decide)
    exact ⟨v1.keep (fun x h1 h2 => a1 x (by omega)), v2⟩
  · exact hT.keep (a1 _ (by decide)) (a1 _ (by decide)) (b0 _ (by decide)) (b1 _ (by decide) (by decide))
  · obtain ⟨n1, n2⟩ := hN
    rw [RN, a0 8 (by decide), a0 9 (by decide), a1 311 (by decide), a1 312 (by decide), a1 356 (by decide), a1 362 (by decide), b1 389 (by decide) (by decide), b0 1 (by decide), b0 45 (by decide), b0 48 (by decide), b0 49 (by decide), b0 59 (by decide), b0 74 (by decide)]
    exact ⟨fun k hk => by rw [b2 k hk]; exact n1 k hk, n2⟩
set_option maxRecDepth 20000 in
set_option maxHeartbeats 1000000 in
theorem k_undo (l : Launch) (h s : jH) (t : Int) (hI : IC h s t) : cI l 165 [.ref 0] h (PK h t (Dundo s)) := by
  obtain ⟨u1, u2, u3, u4, u5, u6⟩ := hI.2.1
  refine cI.of rfl rfl ?_
  refine tl_aload_n rfl rfl ?_
  refine tl_geti (c := 11) (k9 := 4) rfl rfl rfl ?_
  rw [u1]
  refine tl_if_gt (tgt := 14) rfl rfl ⟨by omega, by omega⟩ (fun c1 => ?_) (fun c1 => ?_)
  · skip
    refine tl_aload_n rfl rfl ?_
    refine tl_dup rfl rfl ?_
    refine tl_geti (c := 11) (k9 := 4) rfl rfl rfl ?_
    rw [u1]
    show jT _ _ 19 _ _ _ _
    refine tl_iconst rfl ?_
    refine tl_isub rfl ?_
    refine tl_puti (c := 11) (k9 := 4) rfl rfl rfl rfl ?_
    refine tl_aload_n rfl rfl ?_
    refine tl_geti (c := 11) (k9 := 3) rfl rfl rfl ?_
    rw [hs_k (show 3 ≠ 4 by decide)]
    refine tl_aload_n rfl rfl ?_
    refine tl_geti (c := 11) (k9 := 4) rfl rfl rfl ?_
    rw [hs_s]
    show jT _ _ 32 _ _ _ _
    refine tl_iadd rfl ?_
    refine tl_bipush rfl rfl ?_
    refine tl_irem rfl (by omega) (by omega) (by omega) (by omega) ?_
    refine tl_istore_n rfl (Nat.le_of_ble_eq_true rfl) rfl ?_
    refine tl_aload_n rfl rfl ?_
    refine tl_getr (c := 11) (k9 := 0) (b := 1) rfl rfl rfl rfl ?_
    refine tl_aload_n rfl rfl ?_
    show jT _ _ 42 _ _ _ _
    refine tl_getr (c := 11) (k9 := 1) (b := 19) rfl rfl rfl rfl ?_
    refine tl_iload_n rfl rfl ?_
    have hlt : ((h 0 3 + (s 388 6 - 1)) % 16).toNat < 16 := by omega
    obtain ⟨RSx, ev, ev1, ev2⟩ := u6 (s 388 6 - 1).toNat (by omega)
    rw [show ((h 0 3).toNat + (s 388 6 - 1).toNat) % 16 = ((h 0 3 + (s 388 6 - 1)) % 16).toNat by omega] at RSx ev
    refine tl_aald (n := 16) rfl (Or.inr rfl) rfl (by omega) (by omega) (sr19 _ hlt) ?_
    refine tl_v1v (c9 := 9) (k_copy l StS_now (StS_past _ hlt) (Or.inl (by omega)) _ (fun i => s 391 (1357 * (s 388 6 - 1).toNat + i - 5)) (RSx.keep (fun x h1 h2 => hs_O (by omega)))) rfl rfl rfl rfl rfl (Nat.le_of_ble_eq_true rfl) (fun h2 p2 => ?_)
    obtain ⟨r2, f2⟩ := p2
    refine tl_aload_n rfl rfl ?_
    refine tl_aload_n rfl rfl ?_
    refine tl_getr (c := 11) (k9 := 2) (b := 308) rfl rfl rfl rfl ?_
    show jT _ _ 55 _ _ _ _
    refine tl_iload_n rfl rfl ?_
    refine tl_iald (n := 16) rfl rfl rfl (by omega) (by omega) ?_
    rw [f2 308 (by omega), hs_O (show (308 : Nat) ≠ 0 by decide)]
    refine tl_v1i (c9 := 11) (k_accept l _ _) rfl rfl rfl rfl rfl (Nat.le_of_ble_eq_true rfl) (fun za ha pa => ?_)
    obtain ⟨rfl, rfl⟩ := pa
    refine tl_iret rfl ?_
    -- leaf 0 at 60
    refine ⟨_, rfl, ?_⟩
    rw [Dundo]
    repeat (first | rw [if_pos (by omega)] | rw [if_neg (by omega)])
    rw [ev]
    exact PK.acc (hI.undo (by omega) r2 (fun x hx => f2 x (by omega))) (by omega) (fun x hx => by rw [f2 x (by omega), hs_O (by omega)])
  · show jT _ _ 7 _ _ _ _
    refine tl_aload_n rfl rfl ?_
    refine tl_bipush rfl rfl ?_
    refine tl_v1i (c9 := 11) (k_refuse l _ _ (by omega) (by omega)) rfl rfl rfl rfl rfl (Nat.le_of_ble_eq_true rfl) (fun zr hr pr => ?_)
    obtain ⟨rfl, rfl⟩ := pr
    show jT _ _ 13 _ _ _ _
    refine tl_iret rfl ?_
    -- leaf 1 at 13
    refine ⟨_, rfl, ?_⟩
    rw [Dundo]
    repeat (first | rw [if_pos (by omega)] | rw [if_neg (by omega)])
    exact PK.ref hI (by omega) (by omega)
set_option maxRecDepth 20000 in
set_option maxHeartbeats 1000000 in
theorem r_undo_lp (l : Launch) (h : jH) (n : Nat) (hn : n < 16) (hn6 : h 388 6 = (n : Int)) (P : Option Value → jH → Prop) (hx : jT l 207 67 [some (.ref 388), some (.int (jI ((1357 : Nat) : Int)))] [] (hw h 390 (va_cpy (h 391) (h 390) (1357 * n) 5 1357)) P) : ∀ (m k : Nat), 1357 - k < m → k ≤ 1357 → jT l 207 31 [some (.ref 388), some (.int (jI (k : Int)))] [] (hw h 390 (va_cpy (h 391) (h 390) (1357 * n) 5 k)) P := by
  intro m
  induction m with
  | zero => intro k hk; omega
  | succ m ih =>
    intro k hk hkK
    refine tl_iload_n rfl rfl ?_
    refine tl_sipush rfl rfl ?_
    refine tl_icmp_ge (tgt := 67) rfl rfl ⟨by omega, by omega⟩ ⟨by omega, by omega⟩ (fun c1 => ?_) (fun c1 => ?_)
    · skip
      show jT _ _ 67 _ _ _ _
      -- leaf 0 at 67
      have e : k = 1357 := by omega
      subst e
      exact hx
    · show jT _ _ 38 _ _ _ _
      refine tl_aload_n rfl rfl ?_
      refine tl_getr (c := 12) (k9 := 3) (b := 390) rfl rfl rfl rfl ?_
      refine tl_iconst rfl ?_
      show jT _ _ 43 _ _ _ _
      refine tl_iload_n rfl rfl ?_
      refine tl_iadd rfl ?_
      refine tl_aload_n rfl rfl ?_
      refine tl_getr (c := 12) (k9 := 4) (b := 391) rfl rfl rfl rfl ?_
      refine tl_sipush rfl rfl ?_
      refine tl_aload_n rfl rfl ?_
      refine tl_geti (c := 12) (k9 := 6) rfl rfl rfl ?_
      rw [hw_o (show (388 : Nat) ≠ 390 by decide), hn6]
      show jT _ _ 56 _ _ _ _
      refine tl_imul rfl ?_
      refine tl_iload_n rfl rfl ?_
      refine tl_iadd rfl ?_
      refine tl_iald (n := 21712) rfl rfl rfl (by omega) (by omega) ?_
      rw [hw_o (show (391 : Nat) ≠ 390 by decide), show ((1357 : Int) * (n : Int) + (k : Int)).toNat = 1357 * n + k by omega]
      refine tl_iast (n := 1362) rfl rfl rfl (by omega) (by omega) ?_
      refine tl_iinc rfl rfl rfl ?_
      refine tl_goto (tgt := 31) rfl rfl ?_
      show jT _ _ 31 _ _ _ _
      -- leaf 1 at 31
      rw [hw_hs, show ((5 : Int) + (k : Int)).toNat = 5 + k by omega, cpy_s]
      exact ih (k + 1) (by omega) (by omega)
set_option maxRecDepth 20000 in
set_option maxHeartbeats 1000000 in
theorem r_undo (l : Launch) (g h : jH) (t : Int) (hI0 : IC g h t) : cI l 207 [.ref 388] h (PR (Dundo (Tz h))) := by
  refine cI.of rfl rfl ?_
  refine tl_aload_n rfl rfl ?_
  refine tl_iconst rfl ?_
  refine tl_puti (c := 12) (k9 := 0) rfl rfl rfl rfl ?_
  have hI := hI0.z
  change jT _ _ _ _ _ (Tz h) _
  generalize Tz h = m at hI ⊢
  have nu := hI.nund
  refine tl_aload_n rfl rfl ?_
  refine tl_geti (c := 12) (k9 := 6) rfl rfl rfl ?_
  refine tl_if_ne (tgt := 19) rfl rfl ⟨by omega, by omega⟩ (fun c1 => ?_) (fun c1 => ?_)
  · skip
    show jT _ _ 19 _ _ _ _
    refine tl_aload_n rfl rfl ?_
    refine tl_dup rfl rfl ?_
    refine tl_geti (c := 12) (k9 := 6) rfl rfl rfl ?_
    refine tl_iconst rfl ?_
    refine tl_isub rfl ?_
    refine tl_puti (c := 12) (k9 := 6) rfl rfl rfl rfl ?_
    refine tl_iconst rfl ?_
    show jT _ _ 30 _ _ _ _
    refine tl_istore_n rfl (Nat.le_of_ble_eq_true rfl) rfl ?_
    show jT _ _ 31 _ _ _ _
    -- leaf 0 at 31
    have q6 := hI.2.1.2.2.2.2.2 (m 388 6 - 1).toNat (by omega)
    have e0 : hs m 388 6 (m 388 6 - 1) = hw (hs m 388 6 (m 388 6 - 1)) 390 (va_cpy (hs m 388 6 (m 388 6 - 1) 391) (hs m 388 6 (m 388 6 - 1) 390) (1357 * (m 388 6 - 1).toNat) 5 0) := by rw [cpy_0, hw_self]
    refine Eq.mpr (congrArg (fun q => jT l 207 31 [some (.ref 388), some (.int (jI ((0 : Nat) : Int)))] [] q _) e0) ?_
    refine r_undo_lp l _ (m 388 6 - 1).toNat (by omega) (by rw [hs_s]; omega) _ ?_ _ 0 (Nat.lt_succ_self _) (Nat.zero_le _)
    refine tl_aload_n rfl rfl ?_
    refine tl_aload_n rfl rfl ?_
    refine tl_getr (c := 12) (k9 := 5) (b := 392) rfl rfl rfl rfl ?_
    refine tl_aload_n rfl rfl ?_
    refine tl_geti (c := 12) (k9 := 6) rfl rfl rfl ?_
    rw [hw_o (show (388 : Nat) ≠ 390 by decide), hs_s]
    refine tl_iald (n := 16) rfl rfl rfl (by omega) (by omega) ?_
    rw [hw_o (show (392 : Nat) ≠ 390 by decide), hs_O (show (392 : Nat) ≠ 388 by decide)]
    show jT _ _ 77 _ _ _ _
    refine tl_v1i (c9 := 12) (c_tell l _ _ ⟨by omega, by omega⟩ (by omega)) rfl rfl rfl rfl rfl (Nat.le_of_ble_eq_true rfl) (fun zt ht pt => ?_)
    obtain ⟨rfl, pt⟩ := pt
    refine tl_iret rfl ?_
    -- leaf 0 at 80
    refine ⟨_, rfl, ?_⟩
    rw [Dundo]
    repeat (first | rw [if_pos (by omega)] | rw [if_neg (by omega)])
    refine ⟨rfl, ?_⟩
    show _ = Ttell (Tundo m) (m 392 (m 388 6 - 1).toNat)
    rw [pt, Tundo, hs_O (show (391 : Nat) ≠ 388 by decide), hs_O (show (390 : Nat) ≠ 388 by decide)]
    rfl
  · show jT _ _ 12 _ _ _ _
    refine tl_aload_n rfl rfl ?_
    refine tl_bipush rfl rfl ?_
    refine tl_v1i (c9 := 12) (c_tell l _ _ ⟨by omega, by omega⟩ (by omega)) rfl rfl rfl rfl rfl (Nat.le_of_ble_eq_true rfl) (fun zt ht pt => ?_)
    obtain ⟨rfl, pt⟩ := pt
    refine tl_iret rfl ?_
    -- leaf 1 at 18
    refine ⟨_, rfl, ?_⟩
    rw [Dundo]
    repeat (first | rw [if_pos (by omega)] | rw [if_neg (by omega)])
    exact ⟨rfl, pt⟩
set_option maxRecDepth 20000 in
set_option maxHeartbeats 1000000 in
theorem k_advance (l : Launch) (h s : jH) (t : Int) (hI : IC h s t) : cI l 164 [.ref 0] h (PK h t (Dadv s)) := by
  refine cI.of rfl rfl ?_
  refine tl_aload_n rfl rfl ?_
  refine tl_getr (c := 11) (k9 := 0) (b := 1) rfl rfl rfl rfl ?_
  refine tl_v0i (c9 := 9) (k_runs l _ _ hI.1) rfl rfl rfl rfl rfl (Nat.le_of_ble_eq_true rfl) (fun zu hu pu => ?_)
  obtain ⟨rfl, pu⟩ := pu
  have ru := hI.run01
  refine tl_if_eq (tgt := 17) rfl rfl ⟨by omega, by omega⟩ (fun c1 => ?_) (fun c1 => ?_)
  · skip
    refine tl_aload_n rfl rfl ?_
    refine tl_bipush rfl rfl ?_
    show jT _ _ 20 _ _ _ _
    refine tl_v1v (c9 := 11) (k_keep l _ s t 18 hI (by decide) (by decide)) rfl rfl rfl rfl rfl (Nat.le_of_ble_eq_true rfl) (fun h1 p1 => ?_)
    obtain ⟨i1, f1⟩ := p1
    have e8 : Trem s 18 388 8 = s 388 8 := Trem_n (by decide)
    have e390 : Trem s 18 390 = s 390 := Trem_o (by decide) (by decide) (by decide)
    have e393 : Trem s 18 393 = s 393 := Trem_o (by decide) (by decide) (by decide)
    have hF : RSf h1 6 (s 390) 135 := by rw [← e390]; exact i1.1.1 2 (by decide)
    obtain ⟨q1, q2, q3, q4⟩ := hF
    refine tl_aload_n rfl rfl ?_
    refine tl_getr (c := 11) (k9 := 0) (b := 1) rfl rfl rfl rfl ?_
    refine tl_getr (c := 9) (k9 := 0) (b := 2) rfl rfl rfl rfl ?_
    refine tl_aload_n rfl rfl ?_
    refine tl_getr (c := 11) (k9 := 0) (b := 1) rfl rfl rfl rfl ?_
    refine tl_getr (c := 9) (k9 := 2) (b := 6) rfl rfl rfl rfl ?_
    show jT _ _ 37 _ _ _ _
    refine tl_v1v (c9 := 8) (k_store_f l _ _ (hw (Trem s 18) 390 (va_cpy (s 390) (s 390) 135 5 65)) t i1 0 (by decide) (RSf_S 2 (by decide)) (s 390 135) (fun i => s 390 (136 + i)) q1 q2 q3 q3 (fun i hi => q4 i hi) (fun _ => by rw [e390]; omega) ⟨fun x hx => hw_o hx, fun i hi => by rw [hw_s, va_cpy, if_neg (by omega), e390]⟩ (by rw [hw_s, va_cpy, if_pos (by omega)]) (fun i hi => by rw [hw_s, va_cpy, if_pos (by omega)]; exact congrArg (s 390) (by omega))) rfl rfl rfl rfl rfl (Nat.le_of_ble_eq_true rfl) (fun h2 p2 => ?_)
    obtain ⟨i2, b2, f2⟩ := p2
    refine tl_aload_n rfl rfl ?_
    refine tl_aload_n rfl rfl ?_
    refine tl_getr (c := 11) (k9 := 0) (b := 1) rfl rfl rfl rfl ?_
    refine tl_getr (c := 9) (k9 := 0) (b := 2) rfl rfl rfl rfl ?_
    refine tl_geti (c := 8) (k9 := 1) rfl rfl rfl ?_
    refine tl_v1i (c9 := 11) (k_accept l _ _) rfl rfl rfl rfl rfl (Nat.le_of_ble_eq_true rfl) (fun za ha pa => ?_)
    obtain ⟨rfl, rfl⟩ := pa
    show jT _ _ 54 _ _ _ _
    refine tl_iret rfl ?_
    -- leaf 0 at 54
    refine ⟨_, rfl, ?_⟩
    rw [Dadv]
    repeat (first | rw [if_pos (by omega)] | rw [if_neg (by omega)])
    rw [show h2 2 1 = s 390 135 from b2]
    exact PK.acc i2 (by omega) (fun x hx => by rw [f2 x (by omega) (by omega), f1 x (by omega)])
  · show jT _ _ 10 _ _ _ _
    refine tl_aload_n rfl rfl ?_
    refine tl_bipush rfl rfl ?_
    refine tl_v1i (c9 := 11) (k_refuse l _ _ (by omega) (by omega)) rfl rfl rfl rfl rfl (Nat.le_of_ble_eq_true rfl) (fun zr hr pr => ?_)
    obtain ⟨rfl, rfl⟩ := pr
    refine tl_iret rfl ?_
    -- leaf 1 at 16
    refine ⟨_, rfl, ?_⟩
    rw [Dadv]
    repeat (first | rw [if_pos (by omega)] | rw [if_neg (by omega)])
    exact PK.ref hI (by omega) (by omega)
set_option maxRecDepth 20000 in
set_option maxHeartbeats 1000000 in
theorem r_advance_lp (l : Launch) (h : jH) (P : Option Value → jH → Prop) (hx : jT l 232 61 [some (.ref 388), some (.int (jI ((65 : Nat) : Int)))] [] (hw h 390 (va_cpy (h 390) (h 390) 135 5 65)) P) : ∀ (m k : Nat), 65 - k < m → k ≤ 65 → jT l 232 27 [some (.ref 388), some (.int (jI (k : Int)))] [] (hw h 390 (va_cpy (h 390) (h 390) 135 5 k)) P := by
  intro m
  induction m with
  | zero => intro k hk; omega
  | succ m ih =>
    intro k hk hkK
    refine tl_iload_n rfl rfl ?_
    refine tl_bipush rfl rfl ?_
    refine tl_icmp_ge (tgt := 61) rfl rfl ⟨by omega, by omega⟩ ⟨by omega, by omega⟩ (fun c1 => ?_) (fun c1 => ?_)
    · skip
      show jT _ _ 61 _ _ _ _
      -- leaf 0 at 61
      have e : k = 65 := by omega
      subst e
      exact hx
    · show jT _ _ 33 _ _ _ _
      refine tl_aload_n rfl rfl ?_
      refine tl_getr (c := 12) (k9 := 3) (b := 390) rfl rfl rfl rfl ?_
      refine tl_iconst rfl ?_
      show jT _ _ 38 _ _ _ _
      refine tl_s1i (c_fileAt l _ 0) rfl rfl rfl (Nat.le_of_ble_eq_true rfl) (fun z1 h1 p1 => ?_)
      obtain ⟨q1, rfl⟩ := p1
      have q1 := q1.symm
      subst q1
      refine tl_iload_n rfl rfl ?_
      refine tl_iadd rfl ?_
      refine tl_aload_n rfl rfl ?_
      refine tl_getr (c := 12) (k9 := 3) (b := 390) rfl rfl rfl rfl ?_
      refine tl_iconst rfl ?_
      refine tl_s1i (c_fileAt l _ 2) rfl rfl rfl (Nat.le_of_ble_eq_true rfl) (fun z2 h2 p2 => ?_)
      obtain ⟨q2, rfl⟩ := p2
      have q2 := q2.symm
      subst q2
      show jT _ _ 51 _ _ _ _
      refine tl_iload_n rfl rfl ?_
      refine tl_iadd rfl ?_
      refine tl_iald (n := 1362) rfl rfl rfl (by omega) (by omega) ?_
      rw [hw_s, show ((5 : Int) + 65 * 2 + (k : Int)).toNat = 135 + k by omega, va_cpy, if_neg (by omega)]
      refine tl_iast (n := 1362) rfl rfl rfl (by omega) (by omega) ?_
      refine tl_iinc rfl rfl rfl ?_
      refine tl_goto (tgt := 27) rfl rfl ?_
      show jT _ _ 27 _ _ _ _
      -- leaf 1 at 27
      rw [hw_hs, show ((5 : Int) + 65 * 0 + (k : Int)).toNat = 5 + k by omega, show (fun i => if i = 5 + k then h 390 (135 + k) else va_cpy (h 390) (h 390) 135 5 k i) = _ from cpy_s]
      exact ih (k + 1) (by omega) (by omega)
set_option maxRecDepth 20000 in
set_option maxHeartbeats 1000000 in
theorem r_advance (l : Launch) (g h : jH) (t : Int) (hI0 : IC g h t) : cI l 232 [.ref 388] h (PR (Dadv (Tz h))) := by
  refine cI.of rfl rfl ?_
  refine tl_aload_n rfl rfl ?_
  refine tl_iconst rfl ?_
  refine tl_puti (c := 12) (k9 := 0) rfl rfl rfl rfl ?_
  have hI := hI0.z
  change jT _ _ _ _ _ (Tz h) _
  generalize Tz h = m at hI ⊢
  have nu := hI.nund
  have ru := hI.run01
  refine tl_aload_n rfl rfl ?_
  refine tl_v0i (c9 := 12) (c_runsR l _ ⟨by omega, by omega⟩) rfl rfl rfl rfl rfl (Nat.le_of_ble_eq_true rfl) (fun zu hu pu => ?_)
  obtain ⟨qu, pu⟩ := pu
  have qu := qu.symm
  subst qu
  refine tl_if_eq (tgt := 19) rfl rfl ⟨by omega, by omega⟩ (fun c1 => ?_) (fun c1 => ?_)
  · skip
    show jT _ _ 19 _ _ _ _
    refine tl_aload_n rfl rfl ?_
    refine tl_bipush rfl rfl ?_
    refine tl_v1v (c9 := 12) (r_remember l _ 18 (by omega) (by omega)) rfl rfl rfl rfl rfl (Nat.le_of_ble_eq_true rfl) (fun hr pr => ?_)
    subst pr
    have e8 : Trem m 18 388 8 = m 388 8 := Trem_n (by decide)
    have e390 : Trem m 18 390 = m 390 := Trem_o (by decide) (by decide) (by decide)
    have e393 : Trem m 18 393 = m 393 := Trem_o (by decide) (by decide) (by decide)
    generalize gM : Trem m 18 = M at e8 e390 e393 ⊢
    refine tl_iconst rfl ?_
    refine tl_istore_n rfl (Nat.le_of_ble_eq_true rfl) rfl ?_
    show jT _ _ 27 _ _ _ _
    -- leaf 0 at 27
    have e0 : M = hw M 390 (va_cpy (M 390) (M 390) 135 5 0) := by rw [cpy_0, hw_self]
    refine Eq.mpr (congrArg (fun q => jT l 232 27 [some (.ref 388), some (.int (jI ((0 : Nat) : Int)))] [] q _) e0) ?_
    refine r_advance_lp l M _ ?_ _ 0 (Nat.lt_succ_self _) (Nat.zero_le _)
    refine tl_aload_n rfl rfl ?_
    refine tl_aload_n rfl rfl ?_
    refine tl_iconst rfl ?_
    refine tl_v1i (c9 := 12) (c_sizeOf l _ 0 (by decide) (by decide)) rfl rfl rfl rfl rfl (Nat.le_of_ble_eq_true rfl) (fun z8 h8 p8 => ?_)
    obtain ⟨q8, rfl⟩ := p8
    have q8 := q8.symm
    subst q8
    rw [hw_s, va_cpy, if_pos (by decide), e390, show 135 + ((5 + 65 * 0 : Int).toNat - 5) = 135 from rfl]
    have s135 := (hI.file (f := 2) (by decide) (by decide)).1
    rw [show (5 + 65 * 2 : Int).toNat = 135 from rfl] at s135
    have s136 := (hI.file (f := 2) (by decide) (by decide)).2.1
    rw [show (5 + 65 * 2 : Int).toNat = 135 from rfl] at s136
    refine tl_v1i (c9 := 12) (c_tell l _ _ ⟨by omega, by omega⟩ (by omega)) rfl rfl rfl rfl rfl (Nat.le_of_ble_eq_true rfl) (fun zt ht pt => ?_)
    obtain ⟨rfl, pt⟩ := pt
    refine tl_iret rfl ?_
    -- leaf 0 at 70
    refine ⟨_, rfl, ?_⟩
    rw [Dadv]
    repeat (first | rw [if_pos (by omega)] | rw [if_neg (by omega)])
    refine ⟨rfl, ?_⟩
    show _ = Ttell _ _
    rw [pt, gM]
    rfl
  · show jT _ _ 12 _ _ _ _
    refine tl_aload_n rfl rfl ?_
    refine tl_bipush rfl rfl ?_
    show jT _ _ 15 _ _ _ _
    refine tl_v1i (c9 := 12) (c_tell l _ _ ⟨by omega, by omega⟩ (by omega)) rfl rfl rfl rfl rfl (Nat.le_of_ble_eq_true rfl) (fun zt ht pt => ?_)
    obtain ⟨rfl, pt⟩ := pt
    refine tl_iret rfl ?_
    -- leaf 1 at 18
    refine ⟨_, rfl, ?_⟩
    rw [Dadv]
    repeat (first | rw [if_pos (by omega)] | rw [if_neg (by omega)])
    exact ⟨rfl, pt⟩
theorem SPS : RowS 386 387 64 := ⟨rfl, rfl, rfl, rfl⟩
theorem k_spare (l : Launch) (h s : jH) (t : Int) (hI : IC h s t) (f : Nat) (hf : f < 3) : cV l 106 [.ref 386, .ref (2 + 2 * f)] h (fun h' => IC h' s t ∧ h' 386 1 = s 390 (5 + 65 * f) ∧ (∀ i : Nat, (i : Int) < s 390 (5 + 65 * f) → h' 387 i = s 390 (5 + 65 * f + 1 + i)) ∧ ∀ x, x ≠ 386 → x ≠ 387 → h' x = h x) := by
  obtain ⟨q1, q2, q3, q4⟩ := hI.1.1 f hf
  rw [show 1 + 1 + 2 * f = 2 + 2 * f by omega] at q1 q4
  refine (c_Row_copy l SPS (RSf_S f hf) h (by omega) (by omega)).mono (fun h' e => ?_)
  have em : min (h (2 + 2 * f) 1) ((64 : Nat) : Int) = s 390 (5 + 65 * f) := by omega
  rw [em] at e
  have b2 : ∀ x, x ≠ 386 → x ≠ 387 → h' x = h x := fun x x1 x2 => by rw [e, hw_o x2, hs_O x1]
  refine ⟨hI.only (hI.1.keep (fun x _ _ => b2 x (by omega) (by omega))) (fun _ _ => rfl) (fun _ _ => rfl) (fun x _ => b2 x (by omega) (by omega)), by rw [e, hw_o (by decide), hs_s], fun i hi => ?_, b2⟩
  rw [e, hw_s, va_cpy, if_pos (by omega), ← (q4 i hi).1]
  rw [show 0 + (i - 0) = i by omega, show 2 + 2 * f + 1 = 3 + 2 * f by omega]
theorem swp_st (R : Nat → Int) (i : Nat) (hi : i < 5 + 65 * 1 ∨ 5 + 65 * 1 + 65 ≤ i) : swp R 65 i = va_cpy R R 70 5 65 i := by
  rw [va_cpy, swp]
  by_cases z5 : 5 ≤ i ∧ i < 5 + 65
  · rw [if_pos z5, if_pos z5]
    exact congrArg R (by omega)
  · rw [if_neg z5, if_neg z5, if_neg (by omega)]
theorem swp_0 {R : Nat → Int} : swp R 0 = R := by funext i; rw [swp, if_neg (by omega), if_neg (by omega)]
theorem swp_s {R : Nat → Int} {k : Nat} (hk : k < 65) : (fun i => if i = 70 + k then R (5 + k) else if i = 5 + k then R (70 + k) else swp R k i) = swp R (k + 1) := by
  funext i
  simp only [swp]
  by_cases h1 : i = 70 + k
  · subst h1
    rw [if_pos rfl, if_neg (by omega), if_pos (by omega)]
    exact congrArg R (by omega)
  · rw [if_neg h1]
    by_cases h2 : i = 5 + k
    · subst h2
      rw [if_pos rfl, if_pos (by omega)]
      exact congrArg R (by omega)
    · rw [if_neg h2]
      by_cases h3 : 5 ≤ i ∧ i < 5 + k
      · rw [if_pos h3, if_pos (by omega)]
      · rw [if_neg h3, if_neg (show ¬ (5 ≤ i ∧ i < 5 + (k + 1)) by omega)]
        by_cases h4 : 70 ≤ i ∧ i < 70 + k
        · rw [if_pos h4, if_pos (by omega)]
        · rw [if_neg h4, if_neg (by omega)]
set_option maxRecDepth 20000 in
set_option maxHeartbeats 1000000 in
theorem k_swap (l : Launch) (h s : jH) (t : Int) (hI : IC h s t) : cI l 163 [.ref 0] h (PK h t (Dswap s)) := by
  refine cI.of rfl rfl ?_
  refine tl_aload_n rfl rfl ?_
  refine tl_getr (c := 11) (k9 := 0) (b := 1) rfl rfl rfl rfl ?_
  refine tl_v0i (c9 := 9) (k_runs l _ _ hI.1) rfl rfl rfl rfl rfl (Nat.le_of_ble_eq_true rfl) (fun zu hu pu => ?_)
  obtain ⟨rfl, pu⟩ := pu
  have ru := hI.run01
  refine tl_if_eq (tgt := 17) rfl rfl ⟨by omega, by omega⟩ (fun c1 => ?_) (fun c1 => ?_)
  · skip
    refine tl_aload_n rfl rfl ?_
    refine tl_bipush rfl rfl ?_
    show jT _ _ 20 _ _ _ _
    refine tl_v1v (c9 := 11) (k_keep l _ s t 17 hI (by decide) (by decide)) rfl rfl rfl rfl rfl (Nat.le_of_ble_eq_true rfl) (fun h1 p1 => ?_)
    obtain ⟨i1, f1⟩ := p1
    have e8 : Trem s 17 388 8 = s 388 8 := Trem_n (by decide)
    have e390 : Trem s 17 390 = s 390 := Trem_o (by decide) (by decide) (by decide)
    have e393 : Trem s 17 393 = s 393 := Trem_o (by decide) (by decide) (by decide)
    have hF : RSf h1 2 (s 390) 5 := by rw [← e390]; exact i1.1.1 0 (by decide)
    obtain ⟨q1, q2, q3, q4⟩ := hF
    refine tl_aload_n rfl rfl ?_
    refine tl_getr (c := 11) (k9 := 19) (b := 386) rfl rfl rfl rfl ?_
    refine tl_aload_n rfl rfl ?_
    refine tl_getr (c := 11) (k9 := 0) (b := 1) rfl rfl rfl rfl ?_
    refine tl_getr (c := 9) (k9 := 0) (b := 2) rfl rfl rfl rfl ?_
    refine tl_v1v (c9 := 8) (k_spare l _ _ t i1 0 (by decide)) rfl rfl rfl rfl rfl (Nat.le_of_ble_eq_true rfl) (fun h2 p2 => ?_)
    obtain ⟨i2, b2, c2, f2⟩ := p2
    rw [e390] at b2 c2
    have hG : RSf h2 4 (s 390) 70 := by rw [← e390]; exact i2.1.1 1 (by decide)
    obtain ⟨g1, g2, g3, g4⟩ := hG
    show jT _ _ 37 _ _ _ _
    refine tl_aload_n rfl rfl ?_
    refine tl_getr (c := 11) (k9 := 0) (b := 1) rfl rfl rfl rfl ?_
    refine tl_getr (c := 9) (k9 := 0) (b := 2) rfl rfl rfl rfl ?_
    refine tl_aload_n rfl rfl ?_
    refine tl_getr (c := 11) (k9 := 0) (b := 1) rfl rfl rfl rfl ?_
    refine tl_getr (c := 9) (k9 := 1) (b := 4) rfl rfl rfl rfl ?_
    refine tl_v1v (c9 := 8) (k_store_f l _ _ (hw (Trem s 17) 390 (va_cpy (s 390) (s 390) 70 5 65)) t i2 0 (by decide) (RSf_S 1 (by decide)) (s 390 70) (fun i => s 390 (71 + i)) g1 g2 g3 g3 (fun i hi => g4 i hi) (fun _ => by rw [e390]; omega) ⟨fun x hx => hw_o hx, fun i hi => by rw [hw_s, va_cpy, if_neg (by omega), e390]⟩ (by rw [hw_s, va_cpy, if_pos (by omega)]) (fun i hi => by rw [hw_s, va_cpy, if_pos (by omega)]; exact congrArg (s 390) (by omega))) rfl rfl rfl rfl rfl (Nat.le_of_ble_eq_true rfl) (fun h3 p3 => ?_)
    obtain ⟨i3, b3, f3⟩ := p3
    show jT _ _ 54 _ _ _ _
    refine tl_aload_n rfl rfl ?_
    refine tl_getr (c := 11) (k9 := 0) (b := 1) rfl rfl rfl rfl ?_
    refine tl_getr (c := 9) (k9 := 1) (b := 4) rfl rfl rfl rfl ?_
    refine tl_aload_n rfl rfl ?_
    refine tl_getr (c := 11) (k9 := 19) (b := 386) rfl rfl rfl rfl ?_
    refine tl_v1v (c9 := 8) (k_store_f l _ _ (hw (Trem s 17) 390 (swp (s 390) 65)) t i3 1 (by decide) SPS (s 390 5) (fun i => s 390 (6 + i)) (by rw [f3 386 (by decide) (by decide)]; exact b2) q2 q3 q3 (fun i hi => ⟨by rw [f3 387 (by decide) (by decide)]; exact c2 i hi, (q4 i hi).2⟩) (fun z => by omega) ⟨fun x hx => by rw [hw_o hx, hw_o hx], fun i hi => by rw [hw_s, hw_s]; exact swp_st (s 390) i hi⟩ (by rw [hw_s, swp, if_neg (by omega), if_pos (by omega)]) (fun i hi => by rw [hw_s, swp, if_neg (by omega), if_pos (by omega)]; exact congrArg (s 390) (by omega))) rfl rfl rfl rfl rfl (Nat.le_of_ble_eq_true rfl) (fun h4 p4 => ?_)
    obtain ⟨i4, b4, f4⟩ := p4
    refine tl_aload_n rfl rfl ?_
    show jT _ _ 69 _ _ _ _
    refine tl_aload_n rfl rfl ?_
    refine tl_getr (c := 11) (k9 := 0) (b := 1) rfl rfl rfl rfl ?_
    refine tl_getr (c := 9) (k9 := 0) (b := 2) rfl rfl rfl rfl ?_
    refine tl_geti (c := 8) (k9 := 1) rfl rfl rfl ?_
    refine tl_v1i (c9 := 11) (k_accept l _ _) rfl rfl rfl rfl rfl (Nat.le_of_ble_eq_true rfl) (fun za ha pa => ?_)
    obtain ⟨rfl, rfl⟩ := pa
    refine tl_iret rfl ?_
    -- leaf 0 at 82
    refine ⟨_, rfl, ?_⟩
    rw [Dswap]
    repeat (first | rw [if_pos (by omega)] | rw [if_neg (by omega)])
    rw [show h4 2 1 = s 390 70 by rw [f4 2 (by decide) (by decide)]; exact b3]
    exact PK.acc i4 (by omega) (fun x hx => by rw [f4 x (by omega) (by omega), f3 x (by omega) (by omega), f2 x (by omega) (by omega), f1 x (by omega)])
  · show jT _ _ 10 _ _ _ _
    refine tl_aload_n rfl rfl ?_
    show jT _ _ 11 _ _ _ _
    refine tl_bipush rfl rfl ?_
    refine tl_v1i (c9 := 11) (k_refuse l _ _ (by omega) (by omega)) rfl rfl rfl rfl rfl (Nat.le_of_ble_eq_true rfl) (fun zr hr pr => ?_)
    obtain ⟨rfl, rfl⟩ := pr
    refine tl_iret rfl ?_
    -- leaf 1 at 16
    refine ⟨_, rfl, ?_⟩
    rw [Dswap]
    repeat (first | rw [if_pos (by omega)] | rw [if_neg (by omega)])
    exact PK.ref hI (by omega) (by omega)
set_option maxRecDepth 20000 in
set_option maxHeartbeats 1000000 in
theorem r_swap_lp (l : Launch) (h : jH) (P : Option Value → jH → Prop) (hx : ∀ y, jT l 231 85 [some (.ref 388), some (.int (jI ((65 : Nat) : Int))), y] [] (hw h 390 (swp (h 390) 65)) P) : ∀ (m k : Nat), ∀ y, 65 - k < m → k ≤ 65 → jT l 231 27 [some (.ref 388), some (.int (jI (k : Int))), y] [] (hw h 390 (swp (h 390) k)) P := by
  intro m
  induction m with
  | zero => intro k y hk; omega
  | succ m ih =>
    intro k y hk hkK
    refine tl_iload_n rfl rfl ?_
    refine tl_bipush rfl rfl ?_
    refine tl_icmp_ge (tgt := 85) rfl rfl ⟨by omega, by omega⟩ ⟨by omega, by omega⟩ (fun c1 => ?_) (fun c1 => ?_)
    · skip
      show jT _ _ 85 _ _ _ _
      -- leaf 0 at 85
      have e : k = 65 := by omega
      subst e
      exact hx _
    · show jT _ _ 33 _ _ _ _
      refine tl_aload_n rfl rfl ?_
      refine tl_getr (c := 12) (k9 := 3) (b := 390) rfl rfl rfl rfl ?_
      refine tl_iconst rfl ?_
      show jT _ _ 38 _ _ _ _
      refine tl_s1i (c_fileAt l _ 0) rfl rfl rfl (Nat.le_of_ble_eq_true rfl) (fun z1 h1 p1 => ?_)
      obtain ⟨q1, rfl⟩ := p1
      have q1 := q1.symm
      subst q1
      refine tl_iload_n rfl rfl ?_
      refine tl_iadd rfl ?_
      refine tl_iald (n := 1362) rfl rfl rfl (by omega) (by omega) ?_
      rw [hw_s, show ((5 : Int) + 65 * 0 + (k : Int)).toNat = 5 + k by omega, swp, if_neg (by omega), if_neg (by omega)]
      refine tl_istore_n rfl (Nat.le_of_ble_eq_true rfl) rfl ?_
      refine tl_aload_n rfl rfl ?_
      refine tl_getr (c := 12) (k9 := 3) (b := 390) rfl rfl rfl rfl ?_
      show jT _ _ 49 _ _ _ _
      refine tl_iconst rfl ?_
      refine tl_s1i (c_fileAt l _ 0) rfl rfl rfl (Nat.le_of_ble_eq_true rfl) (fun z2 h2 p2 => ?_)
      obtain ⟨q2, rfl⟩ := p2
      have q2 := q2.symm
      subst q2
      refine tl_iload_n rfl rfl ?_
      refine tl_iadd rfl ?_
      refine tl_aload_n rfl rfl ?_
      refine tl_getr (c := 12) (k9 := 3) (b := 390) rfl rfl rfl rfl ?_
      refine tl_iconst rfl ?_
      show jT _ _ 60 _ _ _ _
      refine tl_s1i (c_fileAt l _ 1) rfl rfl rfl (Nat.le_of_ble_eq_true rfl) (fun z3 h3 p3 => ?_)
      obtain ⟨q3, rfl⟩ := p3
      have q3 := q3.symm
      subst q3
      refine tl_iload_n rfl rfl ?_
      refine tl_iadd rfl ?_
      refine tl_iald (n := 1362) rfl rfl rfl (by omega) (by omega) ?_
      rw [hw_s, show ((5 : Int) + 65 * 1 + (k : Int)).toNat = 70 + k by omega, swp, if_neg (by omega), if_neg (by omega)]
      refine tl_iast (n := 1362) rfl rfl rfl (by omega) (by omega) ?_
      refine tl_aload_n rfl rfl ?_
      refine tl_getr (c := 12) (k9 := 3) (b := 390) rfl rfl rfl rfl ?_
      show jT _ _ 71 _ _ _ _
      refine tl_iconst rfl ?_
      refine tl_s1i (c_fileAt l _ 1) rfl rfl rfl (Nat.le_of_ble_eq_true rfl) (fun z4 h4 p4 => ?_)
      obtain ⟨q4, rfl⟩ := p4
      have q4 := q4.symm
      subst q4
      refine tl_iload_n rfl rfl ?_
      refine tl_iadd rfl ?_
      refine tl_iload_n rfl rfl ?_
      refine tl_iast (n := 1362) rfl rfl rfl (by omega) (by omega) ?_
      refine tl_iinc rfl rfl rfl ?_
      show jT _ _ 82 _ _ _ _
      refine tl_goto (tgt := 27) rfl rfl ?_
      show jT _ _ 27 _ _ _ _
      -- leaf 1 at 27
      rw [hw_hs, hw_hs, show ((5 : Int) + 65 * 0 + (k : Int)).toNat = 5 + k by omega, show ((5 : Int) + 65 * 1 + (k : Int)).toNat = 70 + k by omega, swp_s (by omega)]
      exact ih (k + 1) _ (by omega) (by omega)
set_option maxRecDepth 20000 in
set_option maxHeartbeats 1000000 in
theorem r_swap (l : Launch) (g h : jH) (t : Int) (hI0 : IC g h t) : cI l 231 [.ref 388] h (PR (Dswap (Tz h))) := by
  refine cI.of rfl rfl ?_
  refine tl_aload_n rfl rfl ?_
  refine tl_iconst rfl ?_
  refine tl_puti (c := 12) (k9 := 0) rfl rfl rfl rfl ?_
  have hI := hI0.z
  change jT _ _ _ _ _ (Tz h) _
  generalize Tz h = m at hI ⊢
  have nu := hI.nund
  have ru := hI.run01
  refine tl_aload_n rfl rfl ?_
  refine tl_v0i (c9 := 12) (c_runsR l _ ⟨by omega, by omega⟩) rfl rfl rfl rfl rfl (Nat.le_of_ble_eq_true rfl) (fun zu hu pu => ?_)
  obtain ⟨qu, pu⟩ := pu
  have qu := qu.symm
  subst qu
  refine tl_if_eq (tgt := 19) rfl rfl ⟨by omega, by omega⟩ (fun c1 => ?_) (fun c1 => ?_)
  · skip
    show jT _ _ 19 _ _ _ _
    refine tl_aload_n rfl rfl ?_
    refine tl_bipush rfl rfl ?_
    refine tl_v1v (c9 := 12) (r_remember l _ 17 (by omega) (by omega)) rfl rfl rfl rfl rfl (Nat.le_of_ble_eq_true rfl) (fun hr pr => ?_)
    subst pr
    have e8 : Trem m 17 388 8 = m 388 8 := Trem_n (by decide)
    have e390 : Trem m 17 390 = m 390 := Trem_o (by decide) (by decide) (by decide)
    have e393 : Trem m 17 393 = m 393 := Trem_o (by decide) (by decide) (by decide)
    generalize gM : Trem m 17 = M at e8 e390 e393 ⊢
    refine tl_iconst rfl ?_
    refine tl_istore_n rfl (Nat.le_of_ble_eq_true rfl) rfl ?_
    show jT _ _ 27 _ _ _ _
    -- leaf 0 at 27
    have e0 : M = hw M 390 (swp (M 390) 0) := by rw [swp_0, hw_self]
    refine Eq.mpr (congrArg (fun q => jT l 231 27 [some (.ref 388), some (.int (jI ((0 : Nat) : Int))), none] [] q _) e0) ?_
    refine r_swap_lp l M _ (fun y => ?_) _ 0 _ (Nat.lt_succ_self _) (Nat.zero_le _)
    refine tl_aload_n rfl rfl ?_
    refine tl_aload_n rfl rfl ?_
    refine tl_iconst rfl ?_
    refine tl_v1i (c9 := 12) (c_sizeOf l _ 0 (by decide) (by decide)) rfl rfl rfl rfl rfl (Nat.le_of_ble_eq_true rfl) (fun z8 h8 p8 => ?_)
    obtain ⟨q8, rfl⟩ := p8
    have q8 := q8.symm
    subst q8
    rw [hw_s, swp, if_pos (by decide), e390, show (5 + 65 * 0 : Int).toNat + 65 = 70 from rfl]
    have s135 := (hI.file (f := 1) (by decide) (by decide)).1
    rw [show (5 + 65 * 1 : Int).toNat = 70 from rfl] at s135
    have s136 := (hI.file (f := 1) (by decide) (by decide)).2.1
    rw [show (5 + 65 * 1 : Int).toNat = 70 from rfl] at s136
    refine tl_v1i (c9 := 12) (c_tell l _ _ ⟨by omega, by omega⟩ (by omega)) rfl rfl rfl rfl rfl (Nat.le_of_ble_eq_true rfl) (fun zt ht pt => ?_)
    obtain ⟨rfl, pt⟩ := pt
    refine tl_iret rfl ?_
    -- leaf 0 at 94
    refine ⟨_, rfl, ?_⟩
    rw [Dswap]
    repeat (first | rw [if_pos (by omega)] | rw [if_neg (by omega)])
    refine ⟨rfl, ?_⟩
    show _ = Ttell _ _
    rw [pt, gM]
    rfl
  · show jT _ _ 12 _ _ _ _
    refine tl_aload_n rfl rfl ?_
    refine tl_bipush rfl rfl ?_
    show jT _ _ 15 _ _ _ _
    refine tl_v1i (c9 := 12) (c_tell l _ _ ⟨by omega, by omega⟩ (by omega)) rfl rfl rfl rfl rfl (Nat.le_of_ble_eq_true rfl) (fun zt ht pt => ?_)
    obtain ⟨rfl, pt⟩ := pt
    refine tl_iret rfl ?_
    -- leaf 1 at 18
    refine ⟨_, rfl, ?_⟩
    rw [Dswap]
    repeat (first | rw [if_pos (by omega)] | rw [if_neg (by omega)])
    exact ⟨rfl, pt⟩
