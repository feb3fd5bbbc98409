/-! bar, set, drop, spoil -/
theorem RSf.congr' {h : jH} {r p : Nat} {R R' : Nat → Int} (hF : RSf h r R p) (e : ∀ i, p ≤ i → i < p + 65 → R' i = R i) : RSf h r R' p := by
  obtain ⟨a1, a2, a3, a4⟩ := hF
  have r0 := e p (by omega) (by omega)
  refine ⟨by rw [r0]; exact a1, by rw [r0]; exact a2, by rw [r0]; exact a3, fun i hi => ?_⟩
  rw [r0] at hi
  rw [e _ (by omega) (by omega)]
  exact a4 i hi
theorem RSs.congr' {h : jH} {r p : Nat} {R R' : Nat → Int} (hF : RSs h r R p) (e : ∀ i, p ≤ i → i < p + 301 → R' i = R i) : RSs h r R' p := by
  obtain ⟨a1, a2, a3⟩ := hF
  have r0 := e p (by omega) (by omega)
  refine ⟨by rw [r0]; exact a1, by rw [r0]; exact a2, fun i hi => ?_⟩
  rw [r0] at hi
  rw [e _ (by omega) (by omega)]
  exact a3 i hi
theorem RSr.congr' {h h' : jH} {R R' : Nat → Int} (hF : RSr h 1 R) (e0 : h' 1 = h 1) (e6 : h' 16 = h 16) (e7 : h' 17 = h 17) (e8 : h' 18 = h 18) (e5 : R' 5 = R 5) (e : ∀ i, 1167 ≤ i → R' i = R i) : RSr h' 1 R' := by
  obtain ⟨d1, d2, d3, d4, d5⟩ := hF
  have r7 := e 1167 (by omega)
  refine ⟨by rw [r7]; exact d1, by rw [e0]; exact d2, by rw [e0]; exact d3, fun h7 => by rw [e0]; rw [r7] at h7; exact d4 h7, fun h7 => ?_⟩
  rw [r7] at h7
  obtain ⟨x1, x2, x3, x4, x5, x6, x7⟩ := d5 h7
  rw [e5, e 1168 (by omega), e 1169 (by omega), e0]
  refine ⟨x1, x2, x3, x4, x5, x6, fun i hi => ?_⟩
  rw [show h' (1 + 15) = h (1 + 15) from e6, show h' (1 + 16) = h (1 + 16) from e7, show h' (1 + 17) = h (1 + 17) from e8, e (1170 + 3 * i) (by omega), e (1171 + 3 * i) (by omega), e (1172 + 3 * i) (by omega)]
  exact x7 i hi
theorem IC.bar {h s : jH} {t : Int} (hI : IC h s t) (p : Nat) (hp : p < 64) (y : Int) (hy : y = 0 ∨ y = 1) : IC (hs h 15 p y) (hs s 390 (1103 + p) y) t := by
  obtain ⟨a, b, c, d⟩ := hI.1
  refine hI.only ⟨fun f hf => ?_, fun k hk => ?_, fun i hi => ?_, ?_⟩ (fun x hx => hs_O hx) (fun i hi => hs_k (by omega)) (fun x hx => hs_O (by omega))
  · exact ((a f hf).keep (hs_O (by omega)) (hs_O (by omega))).congr' (fun i i1 i2 => hs_k (by omega))
  · exact ((b k hk).keep (hs_O (by omega)) (hs_O (by omega))).congr' (fun i i1 i2 => hs_k (by omega))
  · by_cases e : i = p
    · subst e
      rw [hs_s, hs_s]
      exact ⟨rfl, hy⟩
    · rw [hs_k (show 1103 + i ≠ 1103 + p by omega), show 1 + 14 = 15 from rfl, hs_k e]
      exact c i hi
  · exact d.congr' (hs_O (by decide)) (hs_O (by decide)) (hs_O (by decide)) (hs_O (by decide)) (hs_k (by omega)) (fun i hi => hs_k (by omega))
/-- one byte of NEW or OUT -/
theorem IC.fset {h s : jH} {t : Int} (hI : IC h s t) (f : Nat) (hf : f < 3) (f1 : f ≠ 0) (p : Nat) (hp : (p : Int) < s 390 (5 + 65 * f)) (v : Int) (hv : byt v) : IC (hs h (3 + 2 * f) p v) (hs s 390 (6 + 65 * f + p) v) t := by
  obtain ⟨q1, q2, q3, q4⟩ := hI.1.1 f hf
  rw [show 1 + 1 + 2 * f = 2 + 2 * f by omega] at q1 q4
  rw [show 2 + 2 * f + 1 = 3 + 2 * f by omega] at q4
  refine hI.file_upd f hf ⟨?_, ?_, ?_, fun i hi => ?_⟩ ⟨fun x hx => hs_O hx, fun i hi => hs_k (by omega)⟩ (fun x _ x1 x2 => hs_O x2) (fun z => absurd z f1)
  · rw [hs_o (by omega), hs_k (by omega)]; exact q1
  · rw [hs_k (by omega)]; exact q2
  · rw [hs_k (by omega)]; exact q3
  · rw [hs_k (by omega)] at hi
    rw [show 2 + 2 * f + 1 = 3 + 2 * f by omega]
    by_cases e : i = p
    · subst e
      rw [hs_s, show 5 + 65 * f + 1 + i = 6 + 65 * f + i by omega, hs_s]
      exact ⟨rfl, hv⟩
    · rw [hs_k e, hs_k (by omega)]
      exact q4 i hi
/-- one byte of a slot -/
theorem IC.sset {h s : jH} {t : Int} (hI : IC h s t) (k : Nat) (hk : k < 3) (p : Nat) (hp : (p : Int) < s 390 (200 + 301 * k)) (v : Int) (hv : byt v) : IC (hs h (10 + 2 * k) p v) (hs s 390 (201 + 301 * k + p) v) t := by
  obtain ⟨q1, q2, q4⟩ := hI.1.2.1 k hk
  rw [show 1 + 8 + 2 * k = 9 + 2 * k by omega] at q1 q4
  rw [show 9 + 2 * k + 1 = 10 + 2 * k by omega] at q4
  refine hI.slot_upd k hk ⟨?_, ?_, fun i hi => ?_⟩ ⟨fun x hx => hs_O hx, fun i hi => hs_k (by omega)⟩ (fun x _ x1 x2 => hs_O x2)
  · rw [hs_o (by omega), hs_k (by omega)]; exact q1
  · rw [hs_k (by omega)]; exact q2
  · rw [hs_k (by omega)] at hi
    rw [show 9 + 2 * k + 1 = 10 + 2 * k by omega]
    by_cases e : i = p
    · subst e
      rw [hs_s, show 200 + 301 * k + 1 + i = 201 + 301 * k + i by omega, hs_s]
      exact ⟨rfl, hv⟩
    · rw [hs_k e, hs_k (by omega)]
      exact q4 i hi
theorem IC.sdrop {h s : jH} {t : Int} (hI : IC h s t) (k : Nat) (hk : k < 3) : IC (hs h (9 + 2 * k) 1 0) (hs s 390 (200 + 301 * k) (-1)) t :=
  hI.slot_upd k hk ⟨by rw [hs_s, hs_s, if_pos rfl], by rw [hs_s]; exact Or.inl rfl, fun i hi => by rw [hs_s] at hi; omega⟩ ⟨fun x hx => hs_O hx, fun i hi => hs_k (by omega)⟩ (fun x _ x1 x2 => hs_O x1)
theorem sm_b {f : Nat → Int} : ∀ n, (∀ i, i < n → f i = 0 ∨ f i = 1) → 0 ≤ sm f n ∧ sm f n ≤ n := by
  intro n
  induction n with
  | zero => intro _; exact ⟨Int.le_refl _, Int.le_refl _⟩
  | succ n ih =>
    intro h
    have := ih (fun i hi => h i (by omega))
    have := h n (by omega)
    rw [sm]
    omega
theorem sm_congr {f g : Nat → Int} : ∀ n, (∀ i, i < n → f i = g i) → sm f n = sm g n := by
  intro n
  induction n with
  | zero => intro _; rfl
  | succ n ih => intro h; rw [sm, sm, ih (fun i hi => h i (by omega)), h n (by omega)]
set_option maxRecDepth 20000 in
set_option maxHeartbeats 1000000 in
theorem k_cntB_lp (l : Launch) (h : jH) (hb : ∀ i, i < 64 → h 15 i = 0 ∨ h 15 i = 1) (P : Option Value → jH → Prop) (hP : P (some (.int (jI (sm (h 15) 64)))) h) : ∀ (m k : Nat), 64 - k < m → k ≤ 64 → jT l 113 4 [some (.ref 1), some (.int (jI (sm (h 15) k))), some (.int (jI (k : Int)))] [] h P := by
  intro m
  induction m with
  | zero => intro k hk; omega
  | succ m ih =>
    intro k hk hkK
    refine tl_iload_n rfl rfl ?_
    refine tl_bipush rfl rfl ?_
    refine tl_icmp_ge (tgt := 28) rfl rfl ⟨by omega, by omega⟩ ⟨by omega, by omega⟩ (fun c1 => ?_) (fun c1 => ?_)
    · skip
      refine tl_iload_n rfl rfl ?_
      refine tl_iret rfl ?_
      -- leaf 0 at 29
      have e : k = 64 := by omega
      subst e
      exact hP
    · show jT _ _ 10 _ _ _ _
      refine tl_aload_n rfl rfl ?_
      show jT _ _ 11 _ _ _ _
      refine tl_getr (c := 9) (k9 := 4) (b := 15) rfl rfl rfl rfl ?_
      refine tl_iload_n rfl rfl ?_
      refine tl_zald (n := 64) rfl rfl rfl (by omega) (by omega) ?_
      rw [Int.toNat_natCast]
      have hb1 := hb k (by omega)
      refine tl_if_eq (tgt := 22) rfl rfl ⟨by omega, by omega⟩ (fun c2 => ?_) (fun c2 => ?_)
      · skip
        refine tl_iinc rfl rfl rfl ?_
        refine tl_goto (tgt := 4) rfl rfl ?_
        show jT _ _ 4 _ _ _ _
        -- leaf 1 at 4
        have e : sm (h 15) (k + 1) = sm (h 15) k := by rw [sm]; omega
        have := ih (k + 1) (by omega) (by omega)
        rw [e] at this
        exact this
      · show jT _ _ 19 _ _ _ _
        refine tl_iinc rfl rfl rfl ?_
        show jT _ _ 22 _ _ _ _
        refine tl_iinc rfl rfl rfl ?_
        refine tl_goto (tgt := 4) rfl rfl ?_
        show jT _ _ 4 _ _ _ _
        -- leaf 2 at 4
        have e : sm (h 15) (k + 1) = sm (h 15) k + 1 := by rw [sm]; omega
        have := ih (k + 1) (by omega) (by omega)
        rw [e] at this
        exact this
set_option maxRecDepth 20000 in
set_option maxHeartbeats 1000000 in
theorem k_cntB (l : Launch) (h : jH) (hb : ∀ i, i < 64 → h 15 i = 0 ∨ h 15 i = 1) : cI l 113 [.ref 1] h (fun z h' => h' = h ∧ z = sm (h 15) 64) := by
  refine cI.of rfl rfl ?_
  refine tl_iconst rfl ?_
  refine tl_istore_n rfl (Nat.le_of_ble_eq_true rfl) rfl ?_
  refine tl_iconst rfl ?_
  refine tl_istore_n rfl (Nat.le_of_ble_eq_true rfl) rfl ?_
  show jT _ _ 4 _ _ _ _
  -- leaf 0 at 4
  exact k_cntB_lp l h hb _ ⟨_, rfl, rfl, rfl⟩ _ 0 (Nat.lt_succ_self _) (Nat.zero_le _)
set_option maxRecDepth 20000 in
set_option maxHeartbeats 1000000 in
theorem r_cntB_lp (l : Launch) (h : jH) (P : Option Value → jH → Prop) (hP : P (some (.int (jI (sm (fun i => h 390 (1103 + i)) 64)))) h) : ∀ (m k : Nat), 64 - k < m → k ≤ 64 → jT l 222 4 [some (.ref 388), some (.int (jI (sm (fun i => h 390 (1103 + i)) k))), some (.int (jI (k : Int)))] [] h P := by
  intro m
  induction m with
  | zero => intro k hk; omega
  | succ m ih =>
    intro k hk hkK
    refine tl_iload_n rfl rfl ?_
    refine tl_bipush rfl rfl ?_
    refine tl_icmp_ge (tgt := 29) rfl rfl ⟨by omega, by omega⟩ ⟨by omega, by omega⟩ (fun c1 => ?_) (fun c1 => ?_)
    · skip
      refine tl_iload_n rfl rfl ?_
      refine tl_iret rfl ?_
      -- leaf 0 at 30
      have e : k = 64 := by omega
      subst e
      exact hP
    · show jT _ _ 10 _ _ _ _
      refine tl_iload_n rfl rfl ?_
      show jT _ _ 11 _ _ _ _
      refine tl_aload_n rfl rfl ?_
      refine tl_getr (c := 12) (k9 := 3) (b := 390) rfl rfl rfl rfl ?_
      refine tl_sipush rfl rfl ?_
      refine tl_iload_n rfl rfl ?_
      refine tl_iadd rfl ?_
      refine tl_iald (n := 1362) rfl rfl rfl (by omega) (by omega) ?_
      rw [show ((1103 : Int) + (k : Int)).toNat = 1103 + k by omega]
      refine tl_iadd rfl ?_
      show jT _ _ 22 _ _ _ _
      refine tl_istore_n rfl (Nat.le_of_ble_eq_true rfl) rfl ?_
      refine tl_iinc rfl rfl rfl ?_
      refine tl_goto (tgt := 4) rfl rfl ?_
      show jT _ _ 4 _ _ _ _
      -- leaf 1 at 4
      exact ih (k + 1) (by omega) (by omega)
set_option maxRecDepth 20000 in
set_option maxHeartbeats 1000000 in
theorem r_cntB (l : Launch) (h : jH) : cI l 222 [.ref 388] h (fun z h' => h' = h ∧ z = sm (fun i => h 390 (1103 + i)) 64) := by
  refine cI.of rfl rfl ?_
  refine tl_iconst rfl ?_
  refine tl_istore_n rfl (Nat.le_of_ble_eq_true rfl) rfl ?_
  refine tl_iconst rfl ?_
  refine tl_istore_n rfl (Nat.le_of_ble_eq_true rfl) rfl ?_
  show jT _ _ 4 _ _ _ _
  -- leaf 0 at 4
  exact r_cntB_lp l h _ ⟨_, rfl, rfl, rfl⟩ _ 0 (Nat.lt_succ_self _) (Nat.zero_le _)
set_option maxRecDepth 20000 in
set_option maxHeartbeats 1000000 in
theorem k_bar_t (l : Launch) (h s : jH) (t p y : Int) (hI : IC h s t) (p1 : 0 ≤ p) (p2 : p < 64) (hy : y = 0 ∨ y = 1) (x0 : Option Value) : jT l 143 36 [some (.ref 0), some (.int (jI p)), x0, some (.int (jI y))] [] h (fun v h' => ∃ z, v = some (.int (jI z)) ∧ PK h t (Dbar s p y) z h') := by
  have c15 := hI.1.2.2.1 p.toNat (by omega)
  rw [show 1 + 14 = 15 from rfl] at c15
  have en : 1103 + p.toNat = (1103 + p).toNat := by omega
  rw [en] at c15
  refine tl_aload_n rfl rfl ?_
  refine tl_getr (c := 11) (k9 := 0) (b := 1) rfl rfl rfl rfl ?_
  refine tl_getr (c := 9) (k9 := 4) (b := 15) rfl rfl rfl rfl ?_
  refine tl_iload_n rfl rfl ?_
  refine tl_zald (n := 64) rfl rfl rfl (by omega) (by omega) ?_
  refine tl_iload_n rfl rfl ?_
  show jT _ _ 46 _ _ _ _
  refine tl_icmp_ne (tgt := 56) rfl rfl ⟨by omega, by omega⟩ ⟨by omega, by omega⟩ (fun c1 => ?_) (fun c1 => ?_)
  · skip
    refine tl_aload_n rfl rfl ?_
    refine tl_iconst rfl ?_
    refine tl_v1v (c9 := 11) (k_keep l _ s t 2 hI (by decide) (by decide)) rfl rfl rfl rfl rfl (Nat.le_of_ble_eq_true rfl) (fun h1 p1 => ?_)
    obtain ⟨i1, f1⟩ := p1
    have e8 : Trem s 2 388 8 = s 388 8 := Trem_n (by decide)
    have e390 : Trem s 2 390 = s 390 := Trem_o (by decide) (by decide) (by decide)
    have e393 : Trem s 2 393 = s 393 := Trem_o (by decide) (by decide) (by decide)
    refine tl_aload_n rfl rfl ?_
    refine tl_getr (c := 11) (k9 := 0) (b := 1) rfl rfl rfl rfl ?_
    refine tl_getr (c := 9) (k9 := 4) (b := 15) rfl rfl rfl rfl ?_
    show jT _ _ 68 _ _ _ _
    refine tl_iload_n rfl rfl ?_
    refine tl_iload_n rfl rfl ?_
    refine tl_zast (n := 64) rfl (by omega) rfl rfl (by omega) (by omega) ?_
    have i2 := i1.bar p.toNat (by omega) y hy
    have hb : ∀ i, i < 64 → hs h1 15 p.toNat y 15 i = 0 ∨ hs h1 15 p.toNat y 15 i = 1 := fun i hi => by have := i2.1.2.2.1 i hi; rw [show 1 + 14 = 15 from rfl] at this; rw [this.1]; exact this.2
    refine tl_aload_n rfl rfl ?_
    refine tl_aload_n rfl rfl ?_
    refine tl_getr (c := 11) (k9 := 0) (b := 1) rfl rfl rfl rfl ?_
    refine tl_v0i (c9 := 9) (k_cntB l _ hb) rfl rfl rfl rfl rfl (Nat.le_of_ble_eq_true rfl) (fun zc hc pc9 => ?_)
    obtain ⟨rfl, rfl⟩ := pc9
    show jT _ _ 79 _ _ _ _
    refine tl_v1i (c9 := 11) (k_accept l _ _) rfl rfl rfl rfl rfl (Nat.le_of_ble_eq_true rfl) (fun za ha pa => ?_)
    obtain ⟨rfl, rfl⟩ := pa
    refine tl_iret rfl ?_
    -- leaf 0 at 82
    refine ⟨_, rfl, ?_⟩
    rw [Dbar]
    repeat (first | rw [if_pos (by omega)] | rw [if_neg (by omega)])
    rw [en] at i2
    have es : sm (hs h1 15 p.toNat y 15) 64 = sm (fun i => hs (Trem s 2) 390 (1103 + p).toNat y 390 (1103 + i)) 64 := sm_congr 64 (fun i hi => (i2.1.2.2.1 i hi).1)
    rw [es]
    exact PK.acc i2 (by rw [← es]; exact (sm_b 64 hb).1) (fun x hx => by rw [hs_O (by omega), f1 x (by omega)])
  · show jT _ _ 49 _ _ _ _
    refine tl_aload_n rfl rfl ?_
    refine tl_bipush rfl rfl ?_
    refine tl_v1i (c9 := 11) (k_refuse l _ _ (by omega) (by omega)) rfl rfl rfl rfl rfl (Nat.le_of_ble_eq_true rfl) (fun zr hr pr => ?_)
    obtain ⟨rfl, rfl⟩ := pr
    refine tl_iret rfl ?_
    -- leaf 1 at 55
    refine ⟨_, rfl, ?_⟩
    rw [Dbar]
    repeat (first | rw [if_pos (by omega)] | rw [if_neg (by omega)])
    exact PK.ref hI (by omega) (by omega)
set_option maxRecDepth 20000 in
set_option maxHeartbeats 1000000 in
theorem k_bar (l : Launch) (h s : jH) (t p y : Int) (hI : IC h s t) (hp : jr p) (hy : jr y) : cI l 143 [.ref 0, .int (jI p), .int (jI y)] h (PK h t (Dbar s p y)) := by
  have p1 := hp.1
  have p2 := hp.2
  have y1 := hy.1
  have y2 := hy.2
  refine cI.of rfl rfl ?_
  refine tl_iload_n rfl rfl ?_
  refine tl_if_lt (tgt := 19) rfl rfl ⟨by omega, by omega⟩ (fun c1 => ?_) (fun c1 => ?_)
  · skip
    refine tl_aload_n rfl rfl ?_
    refine tl_iconst rfl ?_
    refine tl_v1i (c9 := 11) (k_refuse l _ _ (by omega) (by omega)) rfl rfl rfl rfl rfl (Nat.le_of_ble_eq_true rfl) (fun zr hr pr => ?_)
    obtain ⟨rfl, rfl⟩ := pr
    refine tl_iret rfl ?_
    -- leaf 0 at 24
    refine ⟨_, rfl, ?_⟩
    rw [Dbar]
    repeat (first | rw [if_pos (by omega)] | rw [if_neg (by omega)])
    exact PK.ref hI (by omega) (by omega)
  · show jT _ _ 4 _ _ _ _
    show jT _ _ 4 _ _ _ _
    refine tl_iload_n rfl rfl ?_
    refine tl_bipush rfl rfl ?_
    refine tl_icmp_ge (tgt := 19) rfl rfl ⟨by omega, by omega⟩ ⟨by omega, by omega⟩ (fun c2 => ?_) (fun c2 => ?_)
    · skip
      refine tl_aload_n rfl rfl ?_
      refine tl_iconst rfl ?_
      refine tl_v1i (c9 := 11) (k_refuse l _ _ (by omega) (by omega)) rfl rfl rfl rfl rfl (Nat.le_of_ble_eq_true rfl) (fun zr hr pr => ?_)
      obtain ⟨rfl, rfl⟩ := pr
      refine tl_iret rfl ?_
      -- leaf 1 at 24
      refine ⟨_, rfl, ?_⟩
      rw [Dbar]
      repeat (first | rw [if_pos (by omega)] | rw [if_neg (by omega)])
      exact PK.ref hI (by omega) (by omega)
    · show jT _ _ 10 _ _ _ _
      show jT _ _ 10 _ _ _ _
      refine tl_iload_n rfl rfl ?_
      refine tl_if_lt (tgt := 19) rfl rfl ⟨by omega, by omega⟩ (fun c3 => ?_) (fun c3 => ?_)
      · skip
        refine tl_aload_n rfl rfl ?_
        refine tl_iconst rfl ?_
        refine tl_v1i (c9 := 11) (k_refuse l _ _ (by omega) (by omega)) rfl rfl rfl rfl rfl (Nat.le_of_ble_eq_true rfl) (fun zr hr pr => ?_)
        obtain ⟨rfl, rfl⟩ := pr
        refine tl_iret rfl ?_
        -- leaf 2 at 24
        refine ⟨_, rfl, ?_⟩
        rw [Dbar]
        repeat (first | rw [if_pos (by omega)] | rw [if_neg (by omega)])
        exact PK.ref hI (by omega) (by omega)
      · show jT _ _ 14 _ _ _ _
        refine tl_iload_n rfl rfl ?_
        show jT _ _ 15 _ _ _ _
        refine tl_iconst rfl ?_
        refine tl_icmp_le (tgt := 25) rfl rfl ⟨by omega, by omega⟩ ⟨by omega, by omega⟩ (fun c4 => ?_) (fun c4 => ?_)
        · skip
          refine tl_iload_n rfl rfl ?_
          refine tl_iconst rfl ?_
          refine tl_icmp_ne (tgt := 34) rfl rfl ⟨by omega, by omega⟩ ⟨by omega, by omega⟩ (fun c5 => ?_) (fun c5 => ?_)
          · skip
            refine tl_iconst rfl ?_
            refine tl_istore_n rfl (Nat.le_of_ble_eq_true rfl) rfl ?_
            show jT _ _ 36 _ _ _ _
            -- leaf 3 at 36
            first
              | (have ey : y = 1 := by omega
                 subst ey
                 exact k_bar_t l h s t p 1 hI (by omega) (by omega) (Or.inr rfl) _)
              | (have ey : y = 0 := by omega
                 subst ey
                 exact k_bar_t l h s t p 0 hI (by omega) (by omega) (Or.inl rfl) _)
          · show jT _ _ 30 _ _ _ _
            show jT _ _ 30 _ _ _ _
            refine tl_iconst rfl ?_
            refine tl_goto (tgt := 35) rfl rfl ?_
            refine tl_istore_n rfl (Nat.le_of_ble_eq_true rfl) rfl ?_
            show jT _ _ 36 _ _ _ _
            -- leaf 4 at 36
            first
              | (have ey : y = 1 := by omega
                 subst ey
                 exact k_bar_t l h s t p 1 hI (by omega) (by omega) (Or.inr rfl) _)
              | (have ey : y = 0 := by omega
                 subst ey
                 exact k_bar_t l h s t p 0 hI (by omega) (by omega) (Or.inl rfl) _)
        · show jT _ _ 19 _ _ _ _
          refine tl_aload_n rfl rfl ?_
          refine tl_iconst rfl ?_
          refine tl_v1i (c9 := 11) (k_refuse l _ _ (by omega) (by omega)) rfl rfl rfl rfl rfl (Nat.le_of_ble_eq_true rfl) (fun zr hr pr => ?_)
          obtain ⟨rfl, rfl⟩ := pr
          refine tl_iret rfl ?_
          -- leaf 5 at 24
          refine ⟨_, rfl, ?_⟩
          rw [Dbar]
          repeat (first | rw [if_pos (by omega)] | rw [if_neg (by omega)])
          exact PK.ref hI (by omega) (by omega)
set_option maxRecDepth 20000 in
set_option maxHeartbeats 1000000 in
theorem r_bar (l : Launch) (g h : jH) (t p y : Int) (hI0 : IC g h t) (hp : jr p) (hy : jr y) : cI l 223 [.ref 388, .int (jI p), .int (jI y)] h (PR (Dbar (Tz h) p y)) := by
  have p1 := hp.1
  have p2 := hp.2
  have y1 := hy.1
  have y2 := hy.2
  refine cI.of rfl rfl ?_
  refine tl_aload_n rfl rfl ?_
  refine tl_iconst rfl ?_
  refine tl_puti (c := 12) (k9 := 0) rfl rfl rfl rfl ?_
  have hI := hI0.z
  change jT _ _ _ _ _ (Tz h) _
  generalize Tz h = m at hI ⊢
  have nu := hI.nund
  refine tl_iload_n rfl rfl ?_
  refine tl_i2l rfl ⟨by omega, by omega⟩ ?_
  refine tl_lconst (z := 0) rfl rfl ?_
  show jT _ _ 8 _ _ _ _
  refine tl_ldc2 (z := 63) rfl (by decide +kernel) ?_
  refine tl_s3i (c_in l _ _ _ _ ⟨by omega, by omega⟩ ⟨by omega, by omega⟩ ⟨by omega, by omega⟩) rfl rfl rfl (Nat.le_of_ble_eq_true rfl) (fun z1 h1 p1 => ?_)
  obtain ⟨q1, p1⟩ := p1
  have q1 := q1.symm
  subst q1
  have b1 : z1 = 0 ∨ z1 = 1 := by rw [p1]; split <;> omega
  refine tl_if_eq (tgt := 27) rfl rfl ⟨by omega, by omega⟩ (fun c1 => ?_) (fun c1 => ?_)
  · skip
    refine tl_aload_n rfl rfl ?_
    refine tl_iconst rfl ?_
    refine tl_v1i (c9 := 12) (c_tell l _ _ ⟨by omega, by omega⟩ (by omega)) rfl rfl rfl rfl rfl (Nat.le_of_ble_eq_true rfl) (fun zt ht pt => ?_)
    obtain ⟨rfl, pt⟩ := pt
    refine tl_iret rfl ?_
    -- leaf 0 at 32
    refine ⟨_, rfl, ?_⟩
    rw [Dbar]
    repeat (first | rw [if_pos (by omega)] | rw [if_neg (by omega)])
    exact ⟨rfl, pt⟩
  · show jT _ _ 17 _ _ _ _
    show jT _ _ 17 _ _ _ _
    refine tl_iload_n rfl rfl ?_
    refine tl_i2l rfl ⟨by omega, by omega⟩ ?_
    refine tl_lconst (z := 0) rfl rfl ?_
    refine tl_lconst (z := 1) rfl rfl ?_
    refine tl_s3i (c_in l _ _ _ _ ⟨by omega, by omega⟩ ⟨by omega, by omega⟩ ⟨by omega, by omega⟩) rfl rfl rfl (Nat.le_of_ble_eq_true rfl) (fun z2 h2 p2 => ?_)
    obtain ⟨q2, p2⟩ := p2
    have q2 := q2.symm
    subst q2
    have b2 : z2 = 0 ∨ z2 = 1 := by rw [p2]; split <;> omega
    refine tl_if_ne (tgt := 33) rfl rfl ⟨by omega, by omega⟩ (fun c2 => ?_) (fun c2 => ?_)
    · skip
      refine tl_aload_n rfl rfl ?_
      show jT _ _ 34 _ _ _ _
      refine tl_getr (c := 12) (k9 := 3) (b := 390) rfl rfl rfl rfl ?_
      refine tl_sipush rfl rfl ?_
      refine tl_iload_n rfl rfl ?_
      refine tl_iadd rfl ?_
      refine tl_iald (n := 1362) rfl rfl rfl (by omega) (by omega) ?_
      have c15 := hI.1.2.2.1 p.toNat (by omega)
      rw [show 1103 + p.toNat = (1103 + p).toNat by omega] at c15
      refine tl_iload_n rfl rfl ?_
      refine tl_icmp_ne (tgt := 54) rfl rfl ⟨by omega, by omega⟩ ⟨by omega, by omega⟩ (fun c3 => ?_) (fun c3 => ?_)
      · skip
        show jT _ _ 54 _ _ _ _
        refine tl_aload_n rfl rfl ?_
        refine tl_iconst rfl ?_
        refine tl_v1v (c9 := 12) (r_remember l _ 2 (by omega) (by omega)) rfl rfl rfl rfl rfl (Nat.le_of_ble_eq_true rfl) (fun hr pr => ?_)
        subst pr
        have e8 : Trem m 2 388 8 = m 388 8 := Trem_n (by decide)
        have e390 : Trem m 2 390 = m 390 := Trem_o (by decide) (by decide) (by decide)
        have e393 : Trem m 2 393 = m 393 := Trem_o (by decide) (by decide) (by decide)
        generalize gM : Trem m 2 = M at e8 e390 e393 ⊢
        refine tl_aload_n rfl rfl ?_
        refine tl_getr (c := 12) (k9 := 3) (b := 390) rfl rfl rfl rfl ?_
        refine tl_sipush rfl rfl ?_
        refine tl_iload_n rfl rfl ?_
        show jT _ _ 67 _ _ _ _
        refine tl_iadd rfl ?_
        refine tl_iload_n rfl rfl ?_
        refine tl_iast (n := 1362) rfl rfl rfl (by omega) (by omega) ?_
        have hb : ∀ i, i < 64 → hs M 390 (1103 + p).toNat y 390 (1103 + i) = 0 ∨ hs M 390 (1103 + p).toNat y 390 (1103 + i) = 1 := fun i hi => by
          by_cases e : 1103 + i = (1103 + p).toNat
          · rw [e, hs_s]; omega
          · rw [hs_k e, e390]; exact (hI.1.2.2.1 i hi).2
        have sb := sm_b 64 hb
        refine tl_aload_n rfl rfl ?_
        refine tl_aload_n rfl rfl ?_
        refine tl_v0i (c9 := 12) (r_cntB l _) rfl rfl rfl rfl rfl (Nat.le_of_ble_eq_true rfl) (fun zc hc pc9 => ?_)
        obtain ⟨qc, rfl⟩ := pc9
        have qc := qc.symm
        subst qc
        refine tl_v1i (c9 := 12) (c_tell l _ _ ⟨by omega, by omega⟩ (by omega)) rfl rfl rfl rfl rfl (Nat.le_of_ble_eq_true rfl) (fun zt ht pt => ?_)
        obtain ⟨rfl, pt⟩ := pt
        show jT _ _ 78 _ _ _ _
        refine tl_iret rfl ?_
        -- leaf 1 at 78
        refine ⟨_, rfl, ?_⟩
        rw [Dbar]
        repeat (first | rw [if_pos (by omega)] | rw [if_neg (by omega)])
        rw [gM]
        exact ⟨rfl, pt⟩
      · show jT _ _ 47 _ _ _ _
        refine tl_aload_n rfl rfl ?_
        refine tl_bipush rfl rfl ?_
        refine tl_v1i (c9 := 12) (c_tell l _ _ ⟨by omega, by omega⟩ (by omega)) rfl rfl rfl rfl rfl (Nat.le_of_ble_eq_true rfl) (fun zt ht pt => ?_)
        obtain ⟨rfl, pt⟩ := pt
        refine tl_iret rfl ?_
        -- leaf 2 at 53
        refine ⟨_, rfl, ?_⟩
        rw [Dbar]
        repeat (first | rw [if_pos (by omega)] | rw [if_neg (by omega)])
        exact ⟨rfl, pt⟩
    · show jT _ _ 27 _ _ _ _
      refine tl_aload_n rfl rfl ?_
      refine tl_iconst rfl ?_
      show jT _ _ 29 _ _ _ _
      refine tl_v1i (c9 := 12) (c_tell l _ _ ⟨by omega, by omega⟩ (by omega)) rfl rfl rfl rfl rfl (Nat.le_of_ble_eq_true rfl) (fun zt ht pt => ?_)
      obtain ⟨rfl, pt⟩ := pt
      refine tl_iret rfl ?_
      -- leaf 3 at 32
      refine ⟨_, rfl, ?_⟩
      rw [Dbar]
      repeat (first | rw [if_pos (by omega)] | rw [if_neg (by omega)])
      exact ⟨rfl, pt⟩
def Dset (s : jH) (p v : Int) : Int × jH := if p < 0 ∨ s 390 70 ≤ p ∨ v < 0 ∨ 255 < v then dT s (-1) else if s 390 (71 + p).toNat = v then dT s (-4) else dT (hs (Trem s 4) 390 (71 + p).toNat v) (s 390 (71 + p).toNat)
def Ddrop (s : jH) (k : Int) : Int × jH := if k < 0 ∨ 2 < k then dT s (-1) else if s 390 (200 + 301 * k).toNat = -1 then dT s (-2) else dT (hs (Trem s 16) 390 (200 + 301 * k).toNat (-1)) (s 390 (200 + 301 * k).toNat)
def Dspoil (s : jH) (k i v : Int) : Int × jH := if k < 0 ∨ 2 < k ∨ i < 0 ∨ 299 < i ∨ v < 0 ∨ 255 < v then dT s (-1) else if s 390 (200 + 301 * k).toNat = -1 then dT s (-2) else if s 390 (200 + 301 * k).toNat ≤ i ∨ s 390 (201 + 301 * k + i).toNat = v then dT s (-4) else dT (hs (Trem s 14) 390 (201 + 301 * k + i).toNat v) (s 390 (201 + 301 * k + i).toNat)
theorem Ag.set {s s' : jH} (h : Ag s s') (p v : Int) : AgD (Dset s p v) (Dset s' p v) := by
  unfold Dset
  rw [h 390 (by decide)]
  split
  · exact h.d _
  · split
    · exact h.d _
    · exact ((h.rem _).s1 rfl).d _
theorem Ag.drop {s s' : jH} (h : Ag s s') (p : Int) : AgD (Ddrop s p) (Ddrop s' p) := by
  unfold Ddrop
  rw [h 390 (by decide)]
  split
  · exact h.d _
  · split
    · exact h.d _
    · exact ((h.rem _).s1 rfl).d _
theorem Ag.spoil {s s' : jH} (h : Ag s s') (k i v : Int) : AgD (Dspoil s k i v) (Dspoil s' k i v) := by
  unfold Dspoil
  rw [h 390 (by decide)]
  split
  · exact h.d _
  · split
    · exact h.d _
    · split
      · exact h.d _
      · exact ((h.rem _).s1 rfl).d _
set_option maxRecDepth 20000 in
set_option maxHeartbeats 1000000 in
theorem k_set (l : Launch) (h s : jH) (t p v : Int) (hI : IC h s t) (hp : jr p) (hv : jr v) : cI l 147 [.ref 0, .int (jI p), .int (jI v)] h (PK h t (Dset s p v)) := by
  have p1 := hp.1
  have p2 := hp.2
  have v1 := hv.1
  have v2 := hv.2
  have hF : RSf h 4 (s 390) 70 := hI.1.1 1 (by decide)
  obtain ⟨a1, a2, a3, a4⟩ := hF
  refine cI.of rfl rfl ?_
  refine tl_iload_n rfl rfl ?_
  refine tl_if_lt (tgt := 25) rfl rfl ⟨by omega, by omega⟩ (fun c1 => ?_) (fun c1 => ?_)
  · skip
    refine tl_aload_n rfl rfl ?_
    refine tl_iconst rfl ?_
    refine tl_v1i (c9 := 11) (k_refuse l _ _ (by omega) (by omega)) rfl rfl rfl rfl rfl (Nat.le_of_ble_eq_true rfl) (fun zr hr pr => ?_)
    obtain ⟨rfl, rfl⟩ := pr
    refine tl_iret rfl ?_
    -- leaf 0 at 30
    refine ⟨_, rfl, ?_⟩
    rw [Dset]
    repeat (first | rw [if_pos (by omega)] | rw [if_neg (by omega)])
    exact PK.ref hI (by omega) (by omega)
  · show jT _ _ 4 _ _ _ _
    show jT _ _ 4 _ _ _ _
    refine tl_iload_n rfl rfl ?_
    refine tl_aload_n rfl rfl ?_
    refine tl_getr (c := 11) (k9 := 0) (b := 1) rfl rfl rfl rfl ?_
    refine tl_getr (c := 9) (k9 := 1) (b := 4) rfl rfl rfl rfl ?_
    refine tl_geti (c := 8) (k9 := 1) rfl rfl rfl ?_
    rw [a1]
    refine tl_icmp_ge (tgt := 25) rfl rfl ⟨by omega, by omega⟩ ⟨by omega, by omega⟩ (fun c2 => ?_) (fun c2 => ?_)
    · skip
      refine tl_aload_n rfl rfl ?_
      show jT _ _ 26 _ _ _ _
      refine tl_iconst rfl ?_
      refine tl_v1i (c9 := 11) (k_refuse l _ _ (by omega) (by omega)) rfl rfl rfl rfl rfl (Nat.le_of_ble_eq_true rfl) (fun zr hr pr => ?_)
      obtain ⟨rfl, rfl⟩ := pr
      refine tl_iret rfl ?_
      -- leaf 1 at 30
      refine ⟨_, rfl, ?_⟩
      rw [Dset]
      repeat (first | rw [if_pos (by omega)] | rw [if_neg (by omega)])
      exact PK.ref hI (by omega) (by omega)
    · show jT _ _ 18 _ _ _ _
      refine tl_iload_n rfl rfl ?_
      refine tl_s1i (k_isByte l _ v ⟨by omega, by omega⟩) rfl rfl rfl (Nat.le_of_ble_eq_true rfl) (fun zb hb pb => ?_)
      obtain ⟨rfl, pb⟩ := pb
      have bb : zb = 0 ∨ zb = 1 := by rw [pb]; split <;> omega
      refine tl_if_ne (tgt := 31) rfl rfl ⟨by omega, by omega⟩ (fun c3 => ?_) (fun c3 => ?_)
      · skip
        refine tl_aload_n rfl rfl ?_
        show jT _ _ 32 _ _ _ _
        refine tl_getr (c := 11) (k9 := 0) (b := 1) rfl rfl rfl rfl ?_
        refine tl_getr (c := 9) (k9 := 1) (b := 4) rfl rfl rfl rfl ?_
        refine tl_iload_n rfl rfl ?_
        refine tl_v1i (c9 := 8) (c_Row_get l (RSf_S 1 (by decide)) _ p (by show 0 ≤ hb 4 1; omega) (by show hb 4 1 ≤ _; omega) ⟨by omega, by omega⟩) rfl rfl rfl rfl rfl (Nat.le_of_ble_eq_true rfl) (fun zg hg pg => ?_)
        obtain ⟨qg, pg⟩ := pg
        have qg := qg.symm
        subst qg
        have pg1 : zg = if 0 ≤ p ∧ p < hb 4 1 then hb 5 p.toNat else -1 := pg
        have a5 := a4 p.toNat (by omega)
        rw [show 70 + 1 + p.toNat = (71 + p).toNat by omega, show 4 + 1 = 5 from rfl] at a5
        obtain ⟨a5, a6, a7⟩ := a5
        rw [if_pos (by omega), a5] at pg1
        subst pg1
        refine tl_istore_n rfl (Nat.le_of_ble_eq_true rfl) rfl ?_
        refine tl_iload_n rfl rfl ?_
        refine tl_iload_n rfl rfl ?_
        show jT _ _ 45 _ _ _ _
        refine tl_icmp_ne (tgt := 55) rfl rfl ⟨by omega, by omega⟩ ⟨by omega, by omega⟩ (fun c4 => ?_) (fun c4 => ?_)
        · skip
          refine tl_aload_n rfl rfl ?_
          refine tl_iconst rfl ?_
          refine tl_v1v (c9 := 11) (k_keep l _ s t 4 hI (by decide) (by decide)) rfl rfl rfl rfl rfl (Nat.le_of_ble_eq_true rfl) (fun h1 p1 => ?_)
          obtain ⟨i1, f1⟩ := p1
          have e8 : Trem s 4 388 8 = s 388 8 := Trem_n (by decide)
          have e390 : Trem s 4 390 = s 390 := Trem_o (by decide) (by decide) (by decide)
          have e393 : Trem s 4 393 = s 393 := Trem_o (by decide) (by decide) (by decide)
          have n1 : h1 4 = _ := f1 4 (by omega)
          refine tl_aload_n rfl rfl ?_
          refine tl_getr (c := 11) (k9 := 0) (b := 1) rfl rfl rfl rfl ?_
          refine tl_getr (c := 9) (k9 := 1) (b := 4) rfl rfl rfl rfl ?_
          show jT _ _ 67 _ _ _ _
          refine tl_iload_n rfl rfl ?_
          refine tl_iload_n rfl rfl ?_
          refine tl_v2v (c9 := 8) (c_Row_change l (RSf_S 1 (by decide)) _ p v (by show 0 ≤ h1 4 1; rw [n1]; omega) (by show h1 4 1 ≤ _; rw [n1]; omega) ⟨by omega, by omega⟩) rfl rfl rfl rfl rfl (Nat.le_of_ble_eq_true rfl) (fun h2 p2 => ?_)
          have p3 : h2 = if 0 ≤ p ∧ p < h1 4 1 then hs h1 5 p.toNat v else h1 := p2
          rw [if_pos (by rw [n1]; omega)] at p3
          subst p3
          refine tl_aload_n rfl rfl ?_
          refine tl_iload_n rfl rfl ?_
          refine tl_v1i (c9 := 11) (k_accept l _ _) rfl rfl rfl rfl rfl (Nat.le_of_ble_eq_true rfl) (fun za ha pa => ?_)
          obtain ⟨rfl, rfl⟩ := pa
          refine tl_iret rfl ?_
          -- leaf 2 at 77
          refine ⟨_, rfl, ?_⟩
          rw [Dset]
          repeat (first | rw [if_pos (by omega)] | rw [if_neg (by omega)])
          have i2 := i1.fset 1 (by decide) (by decide) p.toNat (by rw [e390]; show (p.toNat : Int) < s 390 70; omega) v ⟨by omega, by omega⟩
          rw [show 6 + 65 * 1 + p.toNat = (71 + p).toNat by omega] at i2
          exact PK.acc i2 (by omega) (fun x hx => by rw [hs_O (by omega), f1 x (by omega)])
        · show jT _ _ 48 _ _ _ _
          show jT _ _ 48 _ _ _ _
          refine tl_aload_n rfl rfl ?_
          refine tl_bipush rfl rfl ?_
          refine tl_v1i (c9 := 11) (k_refuse l _ _ (by omega) (by omega)) rfl rfl rfl rfl rfl (Nat.le_of_ble_eq_true rfl) (fun zr hr pr => ?_)
          obtain ⟨rfl, rfl⟩ := pr
          refine tl_iret rfl ?_
          -- leaf 3 at 54
          refine ⟨_, rfl, ?_⟩
          rw [Dset]
          repeat (first | rw [if_pos (by omega)] | rw [if_neg (by omega)])
          exact PK.ref hI (by omega) (by omega)
      · show jT _ _ 25 _ _ _ _
        refine tl_aload_n rfl rfl ?_
        refine tl_iconst rfl ?_
        refine tl_v1i (c9 := 11) (k_refuse l _ _ (by omega) (by omega)) rfl rfl rfl rfl rfl (Nat.le_of_ble_eq_true rfl) (fun zr hr pr => ?_)
        obtain ⟨rfl, rfl⟩ := pr
        show jT _ _ 30 _ _ _ _
        refine tl_iret rfl ?_
        -- leaf 4 at 30
        refine ⟨_, rfl, ?_⟩
        rw [Dset]
        repeat (first | rw [if_pos (by omega)] | rw [if_neg (by omega)])
        exact PK.ref hI (by omega) (by omega)
set_option maxRecDepth 20000 in
set_option maxHeartbeats 1000000 in
theorem r_set (l : Launch) (g h : jH) (t p v : Int) (hI0 : IC g h t) (hp : jr p) (hv : jr v) : cI l 224 [.ref 388, .int (jI p), .int (jI v)] h (PR (Dset (Tz h) p v)) := by
  have p1 := hp.1
  have p2 := hp.2
  have v1 := hv.1
  have v2 := hv.2
  refine cI.of rfl rfl ?_
  refine tl_aload_n rfl rfl ?_
  refine tl_iconst rfl ?_
  refine tl_puti (c := 12) (k9 := 0) rfl rfl rfl rfl ?_
  have hI := hI0.z
  change jT _ _ _ _ _ (Tz h) _
  generalize Tz h = m at hI ⊢
  have nu := hI.nund
  have hF : RSf g 4 (m 390) 70 := hI.1.1 1 (by decide)
  obtain ⟨a1, a2, a3, a4⟩ := hF
  refine tl_iload_n rfl rfl ?_
  refine tl_i2l rfl ⟨by omega, by omega⟩ ?_
  refine tl_lconst (z := 0) rfl rfl ?_
  show jT _ _ 8 _ _ _ _
  refine tl_aload_n rfl rfl ?_
  refine tl_iconst rfl ?_
  refine tl_v1i (c9 := 12) (c_sizeOf l _ 1 (by decide) (by decide)) rfl rfl rfl rfl rfl (Nat.le_of_ble_eq_true rfl) (fun z8 h8 p8 => ?_)
  obtain ⟨q8, rfl⟩ := p8
  have q8 := q8.symm
  subst q8
  rw [show (5 + 65 * 1 : Int).toNat = 70 from rfl]
  refine tl_i2l rfl ⟨by omega, by omega⟩ ?_
  refine tl_lconst (z := 1) rfl rfl ?_
  refine tl_lsub rfl ?_
  refine tl_s3i (c_in l _ _ _ _ ⟨by omega, by omega⟩ ⟨by omega, by omega⟩ ⟨by omega, by omega⟩) rfl rfl rfl (Nat.le_of_ble_eq_true rfl) (fun z1 h1 p1 => ?_)
  obtain ⟨q1, p1⟩ := p1
  have q1 := q1.symm
  subst q1
  have b1 : z1 = 0 ∨ z1 = 1 := by rw [p1]; split <;> omega
  show jT _ _ 19 _ _ _ _
  refine tl_if_eq (tgt := 34) rfl rfl ⟨by omega, by omega⟩ (fun c1 => ?_) (fun c1 => ?_)
  · skip
    refine tl_aload_n rfl rfl ?_
    refine tl_iconst rfl ?_
    refine tl_v1i (c9 := 12) (c_tell l _ _ ⟨by omega, by omega⟩ (by omega)) rfl rfl rfl rfl rfl (Nat.le_of_ble_eq_true rfl) (fun zt ht pt => ?_)
    obtain ⟨rfl, pt⟩ := pt
    refine tl_iret rfl ?_
    -- leaf 0 at 39
    refine ⟨_, rfl, ?_⟩
    rw [Dset]
    repeat (first | rw [if_pos (by omega)] | rw [if_neg (by omega)])
    exact ⟨rfl, pt⟩
  · show jT _ _ 22 _ _ _ _
    refine tl_iload_n rfl rfl ?_
    refine tl_i2l rfl ⟨by omega, by omega⟩ ?_
    show jT _ _ 24 _ _ _ _
    refine tl_lconst (z := 0) rfl rfl ?_
    refine tl_ldc2 (z := 255) rfl (by decide +kernel) ?_
    refine tl_s3i (c_in l _ _ _ _ ⟨by omega, by omega⟩ ⟨by omega, by omega⟩ ⟨by omega, by omega⟩) rfl rfl rfl (Nat.le_of_ble_eq_true rfl) (fun z2 h2 p2 => ?_)
    obtain ⟨q2, p2⟩ := p2
    have q2 := q2.symm
    subst q2
    have b2 : z2 = 0 ∨ z2 = 1 := by rw [p2]; split <;> omega
    refine tl_if_ne (tgt := 40) rfl rfl ⟨by omega, by omega⟩ (fun c2 => ?_) (fun c2 => ?_)
    · skip
      refine tl_aload_n rfl rfl ?_
      refine tl_iconst rfl ?_
      refine tl_iload_n rfl rfl ?_
      show jT _ _ 43 _ _ _ _
      refine tl_v2i (c9 := 12) (c_at l _ 1 p (by decide) (by decide) (by omega) (by omega)) rfl rfl rfl rfl rfl (Nat.le_of_ble_eq_true rfl) (fun z7 h7 p7 => ?_)
      obtain ⟨q7, rfl⟩ := p7
      have q7 := q7.symm
      subst q7
      rw [show ((6 : Int) + 65 * 1 + p).toNat = (71 + p).toNat by omega]
      have a5 := (a4 p.toNat (by omega)).2
      rw [show 70 + 1 + p.toNat = (71 + p).toNat by omega] at a5
      obtain ⟨a5, a6⟩ := a5
      refine tl_istore_n rfl (Nat.le_of_ble_eq_true rfl) rfl ?_
      refine tl_iload_n rfl rfl ?_
      refine tl_iload_n rfl rfl ?_
      refine tl_icmp_ne (tgt := 59) rfl rfl ⟨by omega, by omega⟩ ⟨by omega, by omega⟩ (fun c3 => ?_) (fun c3 => ?_)
      · skip
        refine tl_aload_n rfl rfl ?_
        refine tl_iconst rfl ?_
        show jT _ _ 61 _ _ _ _
        refine tl_v1v (c9 := 12) (r_remember l _ 4 (by omega) (by omega)) rfl rfl rfl rfl rfl (Nat.le_of_ble_eq_true rfl) (fun hr pr => ?_)
        subst pr
        have e8 : Trem m 4 388 8 = m 388 8 := Trem_n (by decide)
        have e390 : Trem m 4 390 = m 390 := Trem_o (by decide) (by decide) (by decide)
        have e393 : Trem m 4 393 = m 393 := Trem_o (by decide) (by decide) (by decide)
        generalize gM : Trem m 4 = M at e8 e390 e393 ⊢
        refine tl_aload_n rfl rfl ?_
        refine tl_getr (c := 12) (k9 := 3) (b := 390) rfl rfl rfl rfl ?_
        refine tl_iconst rfl ?_
        refine tl_s1i (c_fileAt l _ 1) rfl rfl rfl (Nat.le_of_ble_eq_true rfl) (fun z6 h6 p6 => ?_)
        obtain ⟨q6, rfl⟩ := p6
        have q6 := q6.symm
        subst q6
        refine tl_iconst rfl ?_
        refine tl_iadd rfl ?_
        show jT _ _ 74 _ _ _ _
        refine tl_iload_n rfl rfl ?_
        refine tl_iadd rfl ?_
        refine tl_iload_n rfl rfl ?_
        refine tl_iast (n := 1362) rfl rfl rfl (by omega) (by omega) ?_
        rw [show ((5 : Int) + 65 * 1 + 1 + p).toNat = (71 + p).toNat by omega]
        refine tl_aload_n rfl rfl ?_
        refine tl_iload_n rfl rfl ?_
        refine tl_v1i (c9 := 12) (c_tell l _ _ ⟨by omega, by omega⟩ (by omega)) rfl rfl rfl rfl rfl (Nat.le_of_ble_eq_true rfl) (fun zt ht pt => ?_)
        obtain ⟨rfl, pt⟩ := pt
        show jT _ _ 83 _ _ _ _
        refine tl_iret rfl ?_
        -- leaf 1 at 83
        refine ⟨_, rfl, ?_⟩
        rw [Dset]
        repeat (first | rw [if_pos (by omega)] | rw [if_neg (by omega)])
        rw [gM]
        exact ⟨rfl, pt⟩
      · show jT _ _ 52 _ _ _ _
        refine tl_aload_n rfl rfl ?_
        refine tl_bipush rfl rfl ?_
        refine tl_v1i (c9 := 12) (c_tell l _ _ ⟨by omega, by omega⟩ (by omega)) rfl rfl rfl rfl rfl (Nat.le_of_ble_eq_true rfl) (fun zt ht pt => ?_)
        obtain ⟨rfl, pt⟩ := pt
        refine tl_iret rfl ?_
        -- leaf 2 at 58
        refine ⟨_, rfl, ?_⟩
        rw [Dset]
        repeat (first | rw [if_pos (by omega)] | rw [if_neg (by omega)])
        exact ⟨rfl, pt⟩
    · show jT _ _ 34 _ _ _ _
      refine tl_aload_n rfl rfl ?_
      refine tl_iconst rfl ?_
      show jT _ _ 36 _ _ _ _
      refine tl_v1i (c9 := 12) (c_tell l _ _ ⟨by omega, by omega⟩ (by omega)) rfl rfl rfl rfl rfl (Nat.le_of_ble_eq_true rfl) (fun zt ht pt => ?_)
      obtain ⟨rfl, pt⟩ := pt
      refine tl_iret rfl ?_
      -- leaf 3 at 39
      refine ⟨_, rfl, ?_⟩
      rw [Dset]
      repeat (first | rw [if_pos (by omega)] | rw [if_neg (by omega)])
      exact ⟨rfl, pt⟩
set_option maxRecDepth 20000 in
set_option maxHeartbeats 1000000 in
theorem k_drop (l : Launch) (h s : jH) (t k : Int) (hI : IC h s t) (hk : jr k) : cI l 162 [.ref 0, .int (jI k)] h (PK h t (Ddrop s k)) := by
  have k1 := hk.1
  have k2 := hk.2
  refine cI.of rfl rfl ?_
  refine tl_iload_n rfl rfl ?_
  refine tl_s1i (k_isSlot l _ k ⟨by omega, by omega⟩) rfl rfl rfl (Nat.le_of_ble_eq_true rfl) (fun zs hs9 ps => ?_)
  obtain ⟨qs, ps⟩ := ps
  have qs := qs.symm
  subst qs
  have bs : zs = 0 ∨ zs = 1 := by rw [ps]; split <;> omega
  refine tl_if_ne (tgt := 13) rfl rfl ⟨by omega, by omega⟩ (fun c1 => ?_) (fun c1 => ?_)
  · skip
    refine tl_aload_n rfl rfl ?_
    refine tl_iload_n rfl rfl ?_
    refine tl_v1i (c9 := 11) (k_isFull l _ _ hI.1 k ⟨by omega, by omega⟩) rfl rfl rfl rfl rfl (Nat.le_of_ble_eq_true rfl) (fun zf hf9 pf => ?_)
    obtain ⟨qf, pf⟩ := pf
    have qf := qf.symm
    subst qf
    have bf : zf = 0 ∨ zf = 1 := by rw [pf]; split <;> omega
    have hS := RSs_S k.toNat (by omega)
    have hF := hI.1.2.1 k.toNat (by omega)
    have eo : (200 + 301 * k.toNat : Nat) = (200 + 301 * k).toNat := by omega
    rw [eo, show 1 + 8 + 2 * k.toNat = 9 + 2 * k.toNat by omega] at hF
    obtain ⟨a1, a2, a4⟩ := hF
    show jT _ _ 18 _ _ _ _
    refine tl_if_ne (tgt := 28) rfl rfl ⟨by omega, by omega⟩ (fun c2 => ?_) (fun c2 => ?_)
    · skip
      refine tl_aload_n rfl rfl ?_
      refine tl_bipush rfl rfl ?_
      refine tl_v1v (c9 := 11) (k_keep l _ s t 16 hI (by decide) (by decide)) rfl rfl rfl rfl rfl (Nat.le_of_ble_eq_true rfl) (fun h1 p1 => ?_)
      obtain ⟨i1, f1⟩ := p1
      have e8 : Trem s 16 388 8 = s 388 8 := Trem_n (by decide)
      have e390 : Trem s 16 390 = s 390 := Trem_o (by decide) (by decide) (by decide)
      have e393 : Trem s 16 393 = s 393 := Trem_o (by decide) (by decide) (by decide)
      have n1 : h1 (9 + 2 * k.toNat) = h (9 + 2 * k.toNat) := f1 _ (by omega)
      refine tl_aload_n rfl rfl ?_
      refine tl_getr (c := 11) (k9 := 0) (b := 1) rfl rfl rfl rfl ?_
      refine tl_getr (c := 9) (k9 := 3) (b := 8) rfl rfl rfl rfl ?_
      show jT _ _ 41 _ _ _ _
      refine tl_iload_n rfl rfl ?_
      refine tl_aald (n := 3) rfl (Or.inl rfl) rfl (by omega) (by omega) (sr8 k.toNat (by omega)) ?_
      refine tl_geti (c := 8) (k9 := 1) rfl hS.1 rfl ?_
      rw [n1, a1, if_neg (by omega)]
      refine tl_istore_n rfl (Nat.le_of_ble_eq_true rfl) rfl ?_
      refine tl_aload_n rfl rfl ?_
      refine tl_getr (c := 11) (k9 := 0) (b := 1) rfl rfl rfl rfl ?_
      refine tl_getr (c := 9) (k9 := 3) (b := 8) rfl rfl rfl rfl ?_
      show jT _ _ 54 _ _ _ _
      refine tl_iload_n rfl rfl ?_
      refine tl_aald (n := 3) rfl (Or.inl rfl) rfl (by omega) (by omega) (sr8 k.toNat (by omega)) ?_
      refine tl_iconst rfl ?_
      refine tl_puti (c := 8) (k9 := 1) rfl rfl hS.1 rfl ?_
      refine tl_aload_n rfl rfl ?_
      refine tl_iload_n rfl rfl ?_
      refine tl_v1i (c9 := 11) (k_accept l _ _) rfl rfl rfl rfl rfl (Nat.le_of_ble_eq_true rfl) (fun za ha pa => ?_)
      obtain ⟨rfl, rfl⟩ := pa
      show jT _ _ 65 _ _ _ _
      refine tl_iret rfl ?_
      -- leaf 0 at 65
      refine ⟨_, rfl, ?_⟩
      rw [Ddrop]
      repeat (first | rw [if_pos (by omega)] | rw [if_neg (by omega)])
      have i2 := i1.sdrop k.toNat (by omega)
      rw [eo] at i2
      exact PK.acc i2 (by omega) (fun x hx => by rw [hs_O (by omega), f1 x (by omega)])
    · show jT _ _ 21 _ _ _ _
      refine tl_aload_n rfl rfl ?_
      refine tl_bipush rfl rfl ?_
      refine tl_v1i (c9 := 11) (k_refuse l _ _ (by omega) (by omega)) rfl rfl rfl rfl rfl (Nat.le_of_ble_eq_true rfl) (fun zr hr pr => ?_)
      obtain ⟨rfl, rfl⟩ := pr
      refine tl_iret rfl ?_
      -- leaf 1 at 27
      refine ⟨_, rfl, ?_⟩
      rw [Ddrop]
      repeat (first | rw [if_pos (by omega)] | rw [if_neg (by omega)])
      exact PK.ref hI (by omega) (by omega)
  · show jT _ _ 7 _ _ _ _
    refine tl_aload_n rfl rfl ?_
    refine tl_iconst rfl ?_
    show jT _ _ 9 _ _ _ _
    refine tl_v1i (c9 := 11) (k_refuse l _ _ (by omega) (by omega)) rfl rfl rfl rfl rfl (Nat.le_of_ble_eq_true rfl) (fun zr hr pr => ?_)
    obtain ⟨rfl, rfl⟩ := pr
    refine tl_iret rfl ?_
    -- leaf 2 at 12
    refine ⟨_, rfl, ?_⟩
    rw [Ddrop]
    repeat (first | rw [if_pos (by omega)] | rw [if_neg (by omega)])
    exact PK.ref hI (by omega) (by omega)
set_option maxRecDepth 20000 in
set_option maxHeartbeats 1000000 in
theorem r_drop (l : Launch) (g h : jH) (t k : Int) (hI0 : IC g h t) (hk : jr k) : cI l 316 [.ref 388, .int (jI k)] h (PR (Ddrop (Tz h) k)) := by
  have k1 := hk.1
  have k2 := hk.2
  refine cI.of rfl rfl ?_
  refine tl_aload_n rfl rfl ?_
  refine tl_iconst rfl ?_
  refine tl_puti (c := 12) (k9 := 0) rfl rfl rfl rfl ?_
  have hI := hI0.z
  change jT _ _ _ _ _ (Tz h) _
  generalize Tz h = m at hI ⊢
  have nu := hI.nund
  refine tl_iload_n rfl rfl ?_
  refine tl_s1i (c_isSlotR l _ k ⟨by omega, by omega⟩) rfl rfl rfl (Nat.le_of_ble_eq_true rfl) (fun z1 h1 p1 => ?_)
  obtain ⟨q1, p1⟩ := p1
  have q1 := q1.symm
  subst q1
  have b1 : z1 = 0 ∨ z1 = 1 := by rw [p1]; split <;> omega
  have hs3 := fun (c1 : 0 ≤ k) (c2 : k ≤ 2) => hI.slot (f := k) c1 c2
  refine tl_if_ne (tgt := 18) rfl rfl ⟨by omega, by omega⟩ (fun c1 => ?_) (fun c1 => ?_)
  · skip
    show jT _ _ 18 _ _ _ _
    refine tl_aload_n rfl rfl ?_
    refine tl_iload_n rfl rfl ?_
    obtain ⟨a2, a4⟩ := hs3 (by omega) (by omega)
    refine tl_v1i (c9 := 12) (c_has l _ k (by omega) (by omega) ⟨by omega, by omega⟩) rfl rfl rfl rfl rfl (Nat.le_of_ble_eq_true rfl) (fun zh hh9 ph => ?_)
    obtain ⟨qh, ph⟩ := ph
    have qh := qh.symm
    subst qh
    have bh : zh = 0 ∨ zh = 1 := by rw [ph]; split <;> omega
    refine tl_if_ne (tgt := 33) rfl rfl ⟨by omega, by omega⟩ (fun c2 => ?_) (fun c2 => ?_)
    · skip
      refine tl_aload_n rfl rfl ?_
      refine tl_bipush rfl rfl ?_
      refine tl_v1v (c9 := 12) (r_remember l _ 16 (by omega) (by omega)) rfl rfl rfl rfl rfl (Nat.le_of_ble_eq_true rfl) (fun hr pr => ?_)
      subst pr
      have e8 : Trem m 16 388 8 = m 388 8 := Trem_n (by decide)
      have e390 : Trem m 16 390 = m 390 := Trem_o (by decide) (by decide) (by decide)
      have e393 : Trem m 16 393 = m 393 := Trem_o (by decide) (by decide) (by decide)
      generalize gM : Trem m 16 = M at e8 e390 e393 ⊢
      show jT _ _ 39 _ _ _ _
      refine tl_aload_n rfl rfl ?_
      refine tl_getr (c := 12) (k9 := 3) (b := 390) rfl rfl rfl rfl ?_
      refine tl_iload_n rfl rfl ?_
      refine tl_s1i (c_slotAt l _ k) rfl rfl rfl (Nat.le_of_ble_eq_true rfl) (fun z6 h6 p6 => ?_)
      obtain ⟨q6, rfl⟩ := p6
      have q6 := q6.symm
      subst q6
      refine tl_iald (n := 1362) rfl rfl rfl (by omega) (by omega) ?_
      rw [e390]
      refine tl_istore_n rfl (Nat.le_of_ble_eq_true rfl) rfl ?_
      refine tl_aload_n rfl rfl ?_
      show jT _ _ 50 _ _ _ _
      refine tl_getr (c := 12) (k9 := 3) (b := 390) rfl rfl rfl rfl ?_
      refine tl_iload_n rfl rfl ?_
      refine tl_s1i (c_slotAt l _ k) rfl rfl rfl (Nat.le_of_ble_eq_true rfl) (fun z6 h6 p6 => ?_)
      obtain ⟨q6, rfl⟩ := p6
      have q6 := q6.symm
      subst q6
      refine tl_iconst rfl ?_
      refine tl_iast (n := 1362) rfl rfl rfl (by omega) (by omega) ?_
      refine tl_aload_n rfl rfl ?_
      refine tl_iload_n rfl rfl ?_
      show jT _ _ 61 _ _ _ _
      refine tl_v1i (c9 := 12) (c_tell l _ _ ⟨by omega, by omega⟩ (by omega)) rfl rfl rfl rfl rfl (Nat.le_of_ble_eq_true rfl) (fun zt ht pt => ?_)
      obtain ⟨rfl, pt⟩ := pt
      refine tl_iret rfl ?_
      -- leaf 0 at 64
      refine ⟨_, rfl, ?_⟩
      rw [Ddrop]
      repeat (first | rw [if_pos (by omega)] | rw [if_neg (by omega)])
      rw [gM]
      exact ⟨rfl, pt⟩
    · show jT _ _ 26 _ _ _ _
      refine tl_aload_n rfl rfl ?_
      refine tl_bipush rfl rfl ?_
      refine tl_v1i (c9 := 12) (c_tell l _ _ ⟨by omega, by omega⟩ (by omega)) rfl rfl rfl rfl rfl (Nat.le_of_ble_eq_true rfl) (fun zt ht pt => ?_)
      obtain ⟨rfl, pt⟩ := pt
      refine tl_iret rfl ?_
      -- leaf 1 at 32
      refine ⟨_, rfl, ?_⟩
      rw [Ddrop]
      repeat (first | rw [if_pos (by omega)] | rw [if_neg (by omega)])
      exact ⟨rfl, pt⟩
  · show jT _ _ 12 _ _ _ _
    refine tl_aload_n rfl rfl ?_
    show jT _ _ 13 _ _ _ _
    refine tl_iconst rfl ?_
    refine tl_v1i (c9 := 12) (c_tell l _ _ ⟨by omega, by omega⟩ (by omega)) rfl rfl rfl rfl rfl (Nat.le_of_ble_eq_true rfl) (fun zt ht pt => ?_)
    obtain ⟨rfl, pt⟩ := pt
    refine tl_iret rfl ?_
    -- leaf 2 at 17
    refine ⟨_, rfl, ?_⟩
    rw [Ddrop]
    repeat (first | rw [if_pos (by omega)] | rw [if_neg (by omega)])
    exact ⟨rfl, pt⟩
set_option maxRecDepth 20000 in
set_option maxHeartbeats 1000000 in
theorem k_spoil (l : Launch) (h s : jH) (t k i v : Int) (hI : IC h s t) (hk : jr k) (hi : jr i) (hv : jr v) : cI l 160 [.ref 0, .int (jI k), .int (jI i), .int (jI v)] h (PK h t (Dspoil s k i v)) := by
  have k1 := hk.1
  have k2 := hk.2
  have i1 := hi.1
  have i2 := hi.2
  have v1 := hv.1
  have v2 := hv.2
  refine cI.of rfl rfl ?_
  refine tl_iload_n rfl rfl ?_
  refine tl_s1i (k_isSlot l _ k ⟨by omega, by omega⟩) rfl rfl rfl (Nat.le_of_ble_eq_true rfl) (fun zs hs9 ps => ?_)
  obtain ⟨qs, ps⟩ := ps
  have qs := qs.symm
  subst qs
  have bs : zs = 0 ∨ zs = 1 := by rw [ps]; split <;> omega
  refine tl_if_eq (tgt := 25) rfl rfl ⟨by omega, by omega⟩ (fun c1 => ?_) (fun c1 => ?_)
  · skip
    refine tl_aload_n rfl rfl ?_
    refine tl_iconst rfl ?_
    refine tl_v1i (c9 := 11) (k_refuse l _ _ (by omega) (by omega)) rfl rfl rfl rfl rfl (Nat.le_of_ble_eq_true rfl) (fun zr hr pr => ?_)
    obtain ⟨rfl, rfl⟩ := pr
    show jT _ _ 30 _ _ _ _
    refine tl_iret rfl ?_
    -- leaf 0 at 30
    refine ⟨_, rfl, ?_⟩
    rw [Dspoil]
    repeat (first | rw [if_pos (by omega)] | rw [if_neg (by omega)])
    exact PK.ref hI (by omega) (by omega)
  · show jT _ _ 7 _ _ _ _
    refine tl_iload_n rfl rfl ?_
    refine tl_if_lt (tgt := 25) rfl rfl ⟨by omega, by omega⟩ (fun c2 => ?_) (fun c2 => ?_)
    · skip
      refine tl_aload_n rfl rfl ?_
      refine tl_iconst rfl ?_
      refine tl_v1i (c9 := 11) (k_refuse l _ _ (by omega) (by omega)) rfl rfl rfl rfl rfl (Nat.le_of_ble_eq_true rfl) (fun zr hr pr => ?_)
      obtain ⟨rfl, rfl⟩ := pr
      refine tl_iret rfl ?_
      -- leaf 1 at 30
      refine ⟨_, rfl, ?_⟩
      rw [Dspoil]
      repeat (first | rw [if_pos (by omega)] | rw [if_neg (by omega)])
      exact PK.ref hI (by omega) (by omega)
    · show jT _ _ 11 _ _ _ _
      show jT _ _ 11 _ _ _ _
      refine tl_iload_n rfl rfl ?_
      refine tl_sipush rfl rfl ?_
      refine tl_icmp_ge (tgt := 25) rfl rfl ⟨by omega, by omega⟩ ⟨by omega, by omega⟩ (fun c3 => ?_) (fun c3 => ?_)
      · skip
        refine tl_aload_n rfl rfl ?_
        refine tl_iconst rfl ?_
        refine tl_v1i (c9 := 11) (k_refuse l _ _ (by omega) (by omega)) rfl rfl rfl rfl rfl (Nat.le_of_ble_eq_true rfl) (fun zr hr pr => ?_)
        obtain ⟨rfl, rfl⟩ := pr
        refine tl_iret rfl ?_
        -- leaf 2 at 30
        refine ⟨_, rfl, ?_⟩
        rw [Dspoil]
        repeat (first | rw [if_pos (by omega)] | rw [if_neg (by omega)])
        exact PK.ref hI (by omega) (by omega)
      · show jT _ _ 18 _ _ _ _
        show jT _ _ 18 _ _ _ _
        refine tl_iload_n rfl rfl ?_
        refine tl_s1i (k_isByte l _ v ⟨by omega, by omega⟩) rfl rfl rfl (Nat.le_of_ble_eq_true rfl) (fun zb hb pb => ?_)
        obtain ⟨qb, pb⟩ := pb
        have qb := qb.symm
        subst qb
        have bb : zb = 0 ∨ zb = 1 := by rw [pb]; split <;> omega
        refine tl_if_ne (tgt := 31) rfl rfl ⟨by omega, by omega⟩ (fun c4 => ?_) (fun c4 => ?_)
        · skip
          refine tl_aload_n rfl rfl ?_
          refine tl_iload_n rfl rfl ?_
          refine tl_v1i (c9 := 11) (k_isFull l _ _ hI.1 k ⟨by omega, by omega⟩) rfl rfl rfl rfl rfl (Nat.le_of_ble_eq_true rfl) (fun zf hf9 pf => ?_)
          obtain ⟨qf, pf⟩ := pf
          have qf := qf.symm
          subst qf
          have bf : zf = 0 ∨ zf = 1 := by rw [pf]; split <;> omega
          have hS := RSs_S k.toNat (by omega)
          have hF := hI.1.2.1 k.toNat (by omega)
          have eo : (200 + 301 * k.toNat : Nat) = (200 + 301 * k).toNat := by omega
          rw [eo, show 1 + 8 + 2 * k.toNat = 9 + 2 * k.toNat by omega] at hF
          obtain ⟨a1, a2, a4⟩ := hF
          refine tl_if_ne (tgt := 46) rfl rfl ⟨by omega, by omega⟩ (fun c5 => ?_) (fun c5 => ?_)
          · skip
            show jT _ _ 46 _ _ _ _
            refine tl_aload_n rfl rfl ?_
            refine tl_getr (c := 11) (k9 := 0) (b := 1) rfl rfl rfl rfl ?_
            refine tl_getr (c := 9) (k9 := 3) (b := 8) rfl rfl rfl rfl ?_
            refine tl_iload_n rfl rfl ?_
            refine tl_aald (n := 3) rfl (Or.inl rfl) rfl (by omega) (by omega) (sr8 k.toNat (by omega)) ?_
            refine tl_iload_n rfl rfl ?_
            refine tl_v1i (c9 := 8) (c_Row_get l hS _ i (by rw [a1]; split <;> omega) (by rw [a1]; split <;> omega) ⟨by omega, by omega⟩) rfl rfl rfl hS.1 rfl (Nat.le_of_ble_eq_true rfl) (fun zg hg pg => ?_)
            obtain ⟨qg, pg⟩ := pg
            have qg := qg.symm
            subst qg
            have a1n : h (9 + 2 * k.toNat) 1 = s 390 (200 + 301 * k).toNat := by rw [a1, if_neg (by omega)]
            rw [a1n] at pg
            have a5 : i < s 390 (200 + 301 * k).toNat → h (10 + 2 * k.toNat) i.toNat = s 390 (201 + 301 * k + i).toNat ∧ byt (s 390 (201 + 301 * k + i).toNat) := fun z => by
              have a6 := a4 i.toNat (by omega)
              rw [show (200 + 301 * k).toNat + 1 + i.toNat = (201 + 301 * k + i).toNat by omega, show 9 + 2 * k.toNat + 1 = 10 + 2 * k.toNat by omega] at a6
              exact a6
            have pg2 : (i < s 390 (200 + 301 * k).toNat ∧ zg = s 390 (201 + 301 * k + i).toNat ∧ 0 ≤ zg ∧ zg ≤ 255) ∨ (s 390 (200 + 301 * k).toNat ≤ i ∧ zg = -1) := by
              by_cases z9 : i < s 390 (200 + 301 * k).toNat
              · obtain ⟨a6, a7, a8⟩ := a5 z9
                rw [if_pos (by omega), a6] at pg
                exact Or.inl ⟨z9, pg, by omega, by omega⟩
              · rw [if_neg (by omega)] at pg
                exact Or.inr ⟨by omega, pg⟩
            show jT _ _ 59 _ _ _ _
            refine tl_istore rfl (Nat.le_of_ble_eq_true rfl) rfl ?_
            refine tl_iload rfl rfl ?_
            refine tl_iconst rfl ?_
            refine tl_icmp_eq (tgt := 73) rfl rfl ⟨by omega, by omega⟩ ⟨by omega, by omega⟩ (fun c6 => ?_) (fun c6 => ?_)
            · skip
              refine tl_aload_n rfl rfl ?_
              refine tl_bipush rfl rfl ?_
              refine tl_v1i (c9 := 11) (k_refuse l _ _ (by omega) (by omega)) rfl rfl rfl rfl rfl (Nat.le_of_ble_eq_true rfl) (fun zr hr pr => ?_)
              obtain ⟨rfl, rfl⟩ := pr
              show jT _ _ 79 _ _ _ _
              refine tl_iret rfl ?_
              -- leaf 3 at 79
              refine ⟨_, rfl, ?_⟩
              rw [Dspoil]
              repeat (first | rw [if_pos (by omega)] | rw [if_neg (by omega)])
              exact PK.ref hI (by omega) (by omega)
            · show jT _ _ 67 _ _ _ _
              refine tl_iload rfl rfl ?_
              refine tl_iload_n rfl rfl ?_
              refine tl_icmp_ne (tgt := 80) rfl rfl ⟨by omega, by omega⟩ ⟨by omega, by omega⟩ (fun c7 => ?_) (fun c7 => ?_)
              · skip
                refine tl_aload_n rfl rfl ?_
                refine tl_bipush rfl rfl ?_
                refine tl_v1v (c9 := 11) (k_keep l _ s t 14 hI (by decide) (by decide)) rfl rfl rfl rfl rfl (Nat.le_of_ble_eq_true rfl) (fun h1 p1 => ?_)
                obtain ⟨i1, f1⟩ := p1
                have e8 : Trem s 14 388 8 = s 388 8 := Trem_n (by decide)
                have e390 : Trem s 14 390 = s 390 := Trem_o (by decide) (by decide) (by decide)
                have e393 : Trem s 14 393 = s 393 := Trem_o (by decide) (by decide) (by decide)
                have n1 : h1 (9 + 2 * k.toNat) = h (9 + 2 * k.toNat) := f1 _ (by omega)
                show jT _ _ 86 _ _ _ _
                refine tl_aload_n rfl rfl ?_
                refine tl_getr (c := 11) (k9 := 0) (b := 1) rfl rfl rfl rfl ?_
                refine tl_getr (c := 9) (k9 := 3) (b := 8) rfl rfl rfl rfl ?_
                refine tl_iload_n rfl rfl ?_
                refine tl_aald (n := 3) rfl (Or.inl rfl) rfl (by omega) (by omega) (sr8 k.toNat (by omega)) ?_
                refine tl_iload_n rfl rfl ?_
                refine tl_iload_n rfl rfl ?_
                show jT _ _ 97 _ _ _ _
                refine tl_v2v (c9 := 8) (c_Row_change l hS _ i v (by rw [n1, a1]; split <;> omega) (by rw [n1, a1]; split <;> omega) ⟨by omega, by omega⟩) rfl rfl rfl hS.1 rfl (Nat.le_of_ble_eq_true rfl) (fun h2 p2 => ?_)
                rw [if_pos (by rw [n1, a1, if_neg (by omega)]; omega)] at p2
                subst p2
                refine tl_aload_n rfl rfl ?_
                refine tl_iload rfl rfl ?_
                refine tl_v1i (c9 := 11) (k_accept l _ _) rfl rfl rfl rfl rfl (Nat.le_of_ble_eq_true rfl) (fun za ha pa => ?_)
                obtain ⟨rfl, rfl⟩ := pa
                refine tl_iret rfl ?_
                -- leaf 4 at 106
                refine ⟨_, rfl, ?_⟩
                rw [Dspoil]
                repeat (first | rw [if_pos (by omega)] | rw [if_neg (by omega)])
                have i2 := i1.sset k.toNat (by omega) i.toNat (by rw [e390, eo]; omega) v ⟨by omega, by omega⟩
                rw [show 201 + 301 * k.toNat + i.toNat = (201 + 301 * k + i).toNat by omega] at i2
                rw [show za = s 390 (201 + 301 * k + i).toNat by omega]
                exact PK.acc i2 (by omega) (fun x hx => by rw [hs_O (by omega), f1 x (by omega)])
              · show jT _ _ 73 _ _ _ _
                refine tl_aload_n rfl rfl ?_
                refine tl_bipush rfl rfl ?_
                show jT _ _ 76 _ _ _ _
                refine tl_v1i (c9 := 11) (k_refuse l _ _ (by omega) (by omega)) rfl rfl rfl rfl rfl (Nat.le_of_ble_eq_true rfl) (fun zr hr pr => ?_)
                obtain ⟨rfl, rfl⟩ := pr
                refine tl_iret rfl ?_
                -- leaf 5 at 79
                refine ⟨_, rfl, ?_⟩
                rw [Dspoil]
                repeat (first | rw [if_pos (by omega)] | rw [if_neg (by omega)])
                exact PK.ref hI (by omega) (by omega)
          · show jT _ _ 39 _ _ _ _
            refine tl_aload_n rfl rfl ?_
            refine tl_bipush rfl rfl ?_
            refine tl_v1i (c9 := 11) (k_refuse l _ _ (by omega) (by omega)) rfl rfl rfl rfl rfl (Nat.le_of_ble_eq_true rfl) (fun zr hr pr => ?_)
            obtain ⟨rfl, rfl⟩ := pr
            refine tl_iret rfl ?_
            -- leaf 6 at 45
            refine ⟨_, rfl, ?_⟩
            rw [Dspoil]
            repeat (first | rw [if_pos (by omega)] | rw [if_neg (by omega)])
            exact PK.ref hI (by omega) (by omega)
        · show jT _ _ 25 _ _ _ _
          refine tl_aload_n rfl rfl ?_
          show jT _ _ 26 _ _ _ _
          refine tl_iconst rfl ?_
          refine tl_v1i (c9 := 11) (k_refuse l _ _ (by omega) (by omega)) rfl rfl rfl rfl rfl (Nat.le_of_ble_eq_true rfl) (fun zr hr pr => ?_)
          obtain ⟨rfl, rfl⟩ := pr
          refine tl_iret rfl ?_
          -- leaf 7 at 30
          refine ⟨_, rfl, ?_⟩
          rw [Dspoil]
          repeat (first | rw [if_pos (by omega)] | rw [if_neg (by omega)])
          exact PK.ref hI (by omega) (by omega)
set_option maxRecDepth 20000 in
set_option maxHeartbeats 1000000 in
theorem r_spoil (l : Launch) (g h : jH) (t k i v : Int) (hI0 : IC g h t) (hk : jr k) (hi : jr i) (hv : jr v) : cI l 313 [.ref 388, .int (jI k), .int (jI i), .int (jI v)] h (PR (Dspoil (Tz h) k i v)) := by
  have k1 := hk.1
  have k2 := hk.2
  have i1 := hi.1
  have i2 := hi.2
  have v1 := hv.1
  have v2 := hv.2
  refine cI.of rfl rfl ?_
  refine tl_aload_n rfl rfl ?_
  refine tl_iconst rfl ?_
  refine tl_puti (c := 12) (k9 := 0) rfl rfl rfl rfl ?_
  have hI := hI0.z
  change jT _ _ _ _ _ (Tz h) _
  generalize Tz h = m at hI ⊢
  have nu := hI.nund
  refine tl_iload_n rfl rfl ?_
  refine tl_s1i (c_isSlotR l _ k ⟨by omega, by omega⟩) rfl rfl rfl (Nat.le_of_ble_eq_true rfl) (fun z1 h1 p1 => ?_)
  obtain ⟨q1, p1⟩ := p1
  have q1 := q1.symm
  subst q1
  have b1 : z1 = 0 ∨ z1 = 1 := by rw [p1]; split <;> omega
  have hs3 := fun (c1 : 0 ≤ k) (c2 : k ≤ 2) => hI.slot (f := k) c1 c2
  refine tl_if_eq (tgt := 36) rfl rfl ⟨by omega, by omega⟩ (fun c1 => ?_) (fun c1 => ?_)
  · skip
    show jT _ _ 36 _ _ _ _
    refine tl_aload_n rfl rfl ?_
    refine tl_iconst rfl ?_
    refine tl_v1i (c9 := 12) (c_tell l _ _ ⟨by omega, by omega⟩ (by omega)) rfl rfl rfl rfl rfl (Nat.le_of_ble_eq_true rfl) (fun zt ht pt => ?_)
    obtain ⟨rfl, pt⟩ := pt
    refine tl_iret rfl ?_
    -- leaf 0 at 41
    refine ⟨_, rfl, ?_⟩
    rw [Dspoil]
    repeat (first | rw [if_pos (by omega)] | rw [if_neg (by omega)])
    exact ⟨rfl, pt⟩
  · show jT _ _ 12 _ _ _ _
    refine tl_iload_n rfl rfl ?_
    refine tl_i2l rfl ⟨by omega, by omega⟩ ?_
    refine tl_lconst (z := 0) rfl rfl ?_
    show jT _ _ 15 _ _ _ _
    refine tl_ldc2 (z := 299) rfl (by decide +kernel) ?_
    refine tl_s3i (c_in l _ _ _ _ ⟨by omega, by omega⟩ ⟨by omega, by omega⟩ ⟨by omega, by omega⟩) rfl rfl rfl (Nat.le_of_ble_eq_true rfl) (fun z2 h2 p2 => ?_)
    obtain ⟨q2, p2⟩ := p2
    have q2 := q2.symm
    subst q2
    have b2 : z2 = 0 ∨ z2 = 1 := by rw [p2]; split <;> omega
    refine tl_if_eq (tgt := 36) rfl rfl ⟨by omega, by omega⟩ (fun c2 => ?_) (fun c2 => ?_)
    · skip
      refine tl_aload_n rfl rfl ?_
      refine tl_iconst rfl ?_
      refine tl_v1i (c9 := 12) (c_tell l _ _ ⟨by omega, by omega⟩ (by omega)) rfl rfl rfl rfl rfl (Nat.le_of_ble_eq_true rfl) (fun zt ht pt => ?_)
      obtain ⟨rfl, pt⟩ := pt
      refine tl_iret rfl ?_
      -- leaf 1 at 41
      refine ⟨_, rfl, ?_⟩
      rw [Dspoil]
      repeat (first | rw [if_pos (by omega)] | rw [if_neg (by omega)])
      exact ⟨rfl, pt⟩
    · show jT _ _ 24 _ _ _ _
      show jT _ _ 24 _ _ _ _
      refine tl_iload_n rfl rfl ?_
      refine tl_i2l rfl ⟨by omega, by omega⟩ ?_
      refine tl_lconst (z := 0) rfl rfl ?_
      refine tl_ldc2 (z := 255) rfl (by decide +kernel) ?_
      refine tl_s3i (c_in l _ _ _ _ ⟨by omega, by omega⟩ ⟨by omega, by omega⟩ ⟨by omega, by omega⟩) rfl rfl rfl (Nat.le_of_ble_eq_true rfl) (fun z3 h3 p3 => ?_)
      obtain ⟨q3, p3⟩ := p3
      have q3 := q3.symm
      subst q3
      have b3 : z3 = 0 ∨ z3 = 1 := by rw [p3]; split <;> omega
      refine tl_if_ne (tgt := 42) rfl rfl ⟨by omega, by omega⟩ (fun c3 => ?_) (fun c3 => ?_)
      · skip
        refine tl_aload_n rfl rfl ?_
        show jT _ _ 43 _ _ _ _
        refine tl_iload_n rfl rfl ?_
        obtain ⟨a2, a4⟩ := hs3 (by omega) (by omega)
        refine tl_v1i (c9 := 12) (c_has l _ k (by omega) (by omega) ⟨by omega, by omega⟩) rfl rfl rfl rfl rfl (Nat.le_of_ble_eq_true rfl) (fun zh hh9 ph => ?_)
        obtain ⟨qh, ph⟩ := ph
        have qh := qh.symm
        subst qh
        have bh : zh = 0 ∨ zh = 1 := by rw [ph]; split <;> omega
        refine tl_if_ne (tgt := 57) rfl rfl ⟨by omega, by omega⟩ (fun c4 => ?_) (fun c4 => ?_)
        · skip
          refine tl_iload_n rfl rfl ?_
          refine tl_s1i (c_slotAt l _ k) rfl rfl rfl (Nat.le_of_ble_eq_true rfl) (fun z6 h6 p6 => ?_)
          obtain ⟨q6, rfl⟩ := p6
          have q6 := q6.symm
          subst q6
          refine tl_istore rfl (Nat.le_of_ble_eq_true rfl) rfl ?_
          refine tl_iload_n rfl rfl ?_
          show jT _ _ 64 _ _ _ _
          refine tl_aload_n rfl rfl ?_
          refine tl_getr (c := 12) (k9 := 3) (b := 390) rfl rfl rfl rfl ?_
          refine tl_iload rfl rfl ?_
          refine tl_iald (n := 1362) rfl rfl rfl (by omega) (by omega) ?_
          refine tl_icmp_ge (tgt := 89) rfl rfl ⟨by omega, by omega⟩ ⟨by omega, by omega⟩ (fun c5 => ?_) (fun c5 => ?_)
          · skip
            refine tl_aload_n rfl rfl ?_
            refine tl_bipush rfl rfl ?_
            show jT _ _ 92 _ _ _ _
            refine tl_v1i (c9 := 12) (c_tell l _ _ ⟨by omega, by omega⟩ (by omega)) rfl rfl rfl rfl rfl (Nat.le_of_ble_eq_true rfl) (fun zt ht pt => ?_)
            obtain ⟨rfl, pt⟩ := pt
            refine tl_iret rfl ?_
            -- leaf 2 at 95
            refine ⟨_, rfl, ?_⟩
            rw [Dspoil]
            repeat (first | rw [if_pos (by omega)] | rw [if_neg (by omega)])
            exact ⟨rfl, pt⟩
          · show jT _ _ 74 _ _ _ _
            refine tl_aload_n rfl rfl ?_
            refine tl_getr (c := 12) (k9 := 3) (b := 390) rfl rfl rfl rfl ?_
            refine tl_iload rfl rfl ?_
            refine tl_iconst rfl ?_
            refine tl_iadd rfl ?_
            show jT _ _ 82 _ _ _ _
            refine tl_iload_n rfl rfl ?_
            refine tl_iadd rfl ?_
            refine tl_iald (n := 1362) rfl rfl rfl (by omega) (by omega) ?_
            have a5 := a4 i.toNat (by omega)
            rw [show (201 + 301 * k).toNat + i.toNat = (201 + 301 * k + i).toNat by omega] at a5
            obtain ⟨a5, a6⟩ := a5
            rw [show ((200 : Int) + 301 * k + 1 + i).toNat = (201 + 301 * k + i).toNat by omega]
            refine tl_iload_n rfl rfl ?_
            refine tl_icmp_ne (tgt := 96) rfl rfl ⟨by omega, by omega⟩ ⟨by omega, by omega⟩ (fun c6 => ?_) (fun c6 => ?_)
            · skip
              refine tl_aload_n rfl rfl ?_
              refine tl_bipush rfl rfl ?_
              show jT _ _ 99 _ _ _ _
              refine tl_v1v (c9 := 12) (r_remember l _ 14 (by omega) (by omega)) rfl rfl rfl rfl rfl (Nat.le_of_ble_eq_true rfl) (fun hr pr => ?_)
              subst pr
              have e8 : Trem m 14 388 8 = m 388 8 := Trem_n (by decide)
              have e390 : Trem m 14 390 = m 390 := Trem_o (by decide) (by decide) (by decide)
              have e393 : Trem m 14 393 = m 393 := Trem_o (by decide) (by decide) (by decide)
              generalize gM : Trem m 14 = M at e8 e390 e393 ⊢
              refine tl_aload_n rfl rfl ?_
              refine tl_getr (c := 12) (k9 := 3) (b := 390) rfl rfl rfl rfl ?_
              refine tl_iload rfl rfl ?_
              refine tl_iconst rfl ?_
              refine tl_iadd rfl ?_
              refine tl_iload_n rfl rfl ?_
              show jT _ _ 111 _ _ _ _
              refine tl_iadd rfl ?_
              refine tl_iald (n := 1362) rfl rfl rfl (by omega) (by omega) ?_
              rw [e390, show ((200 : Int) + 301 * k + 1 + i).toNat = (201 + 301 * k + i).toNat by omega]
              refine tl_istore rfl (Nat.le_of_ble_eq_true rfl) rfl ?_
              refine tl_aload_n rfl rfl ?_
              refine tl_getr (c := 12) (k9 := 3) (b := 390) rfl rfl rfl rfl ?_
              refine tl_iload rfl rfl ?_
              refine tl_iconst rfl ?_
              show jT _ _ 122 _ _ _ _
              refine tl_iadd rfl ?_
              refine tl_iload_n rfl rfl ?_
              refine tl_iadd rfl ?_
              refine tl_iload_n rfl rfl ?_
              refine tl_iast (n := 1362) rfl rfl rfl (by omega) (by omega) ?_
              rw [show ((200 : Int) + 301 * k + 1 + i).toNat = (201 + 301 * k + i).toNat by omega]
              refine tl_aload_n rfl rfl ?_
              refine tl_iload rfl rfl ?_
              show jT _ _ 130 _ _ _ _
              refine tl_v1i (c9 := 12) (c_tell l _ _ ⟨by omega, by omega⟩ (by omega)) rfl rfl rfl rfl rfl (Nat.le_of_ble_eq_true rfl) (fun zt ht pt => ?_)
              obtain ⟨rfl, pt⟩ := pt
              refine tl_iret rfl ?_
              -- leaf 3 at 133
              refine ⟨_, rfl, ?_⟩
              rw [Dspoil]
              repeat (first | rw [if_pos (by omega)] | rw [if_neg (by omega)])
              rw [gM]
              exact ⟨rfl, pt⟩
            · show jT _ _ 89 _ _ _ _
              refine tl_aload_n rfl rfl ?_
              refine tl_bipush rfl rfl ?_
              refine tl_v1i (c9 := 12) (c_tell l _ _ ⟨by omega, by omega⟩ (by omega)) rfl rfl rfl rfl rfl (Nat.le_of_ble_eq_true rfl) (fun zt ht pt => ?_)
              obtain ⟨rfl, pt⟩ := pt
              refine tl_iret rfl ?_
              -- leaf 4 at 95
              refine ⟨_, rfl, ?_⟩
              rw [Dspoil]
              repeat (first | rw [if_pos (by omega)] | rw [if_neg (by omega)])
              exact ⟨rfl, pt⟩
        · show jT _ _ 50 _ _ _ _
          refine tl_aload_n rfl rfl ?_
          show jT _ _ 51 _ _ _ _
          refine tl_bipush rfl rfl ?_
          refine tl_v1i (c9 := 12) (c_tell l _ _ ⟨by omega, by omega⟩ (by omega)) rfl rfl rfl rfl rfl (Nat.le_of_ble_eq_true rfl) (fun zt ht pt => ?_)
          obtain ⟨rfl, pt⟩ := pt
          refine tl_iret rfl ?_
          -- leaf 5 at 56
          refine ⟨_, rfl, ?_⟩
          rw [Dspoil]
          repeat (first | rw [if_pos (by omega)] | rw [if_neg (by omega)])
          exact ⟨rfl, pt⟩
      · show jT _ _ 36 _ _ _ _
        refine tl_aload_n rfl rfl ?_
        refine tl_iconst rfl ?_
        refine tl_v1i (c9 := 12) (c_tell l _ _ ⟨by omega, by omega⟩ (by omega)) rfl rfl rfl rfl rfl (Nat.le_of_ble_eq_true rfl) (fun zt ht pt => ?_)
        obtain ⟨rfl, pt⟩ := pt
        refine tl_iret rfl ?_
        -- leaf 6 at 41
        refine ⟨_, rfl, ?_⟩
        rw [Dspoil]
        repeat (first | rw [if_pos (by omega)] | rw [if_neg (by omega)])
        exact ⟨rfl, pt⟩
