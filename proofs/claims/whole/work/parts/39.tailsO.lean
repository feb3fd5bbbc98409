/-! sorted, kinds, repeated -/
def KF (h h' : jH) : Prop := (∀ x, x < 313 ∨ 388 ≤ x → h' x = h x) ∧ h' 356 4 = h 356 4 ∧ h' 356 5 = h 356 5 ∧ h' 362 0 = h 362 0 ∧ h' 362 1 = h 362 1
theorem KF.rfl' {h : jH} : KF h h := ⟨fun _ _ => rfl, rfl, rfl, rfl, rfl⟩
theorem KF.trans {a b c : jH} (h1 : KF a b) (h2 : KF b c) : KF a c := ⟨fun x hx => (h2.1 x hx).trans (h1.1 x hx), h2.2.1.trans h1.2.1, h2.2.2.1.trans h1.2.2.1, h2.2.2.2.1.trans h1.2.2.2.1, h2.2.2.2.2.trans h1.2.2.2.2⟩
theorem KF.rs {h h' : jH} {R : Nat → Int} (k : KF h h') (hR : RS h 1 R) : RS h' 1 R := hR.of (fun x x1 x2 => k.1 x (by omega))
theorem KF.of {h h' : jH} (e : ∀ x, x < 313 ∨ x = 356 ∨ x = 362 ∨ 388 ≤ x → h' x = h x) : KF h h' := ⟨fun x hx => e x (by omega), by rw [e 356 (by omega)], by rw [e 356 (by omega)], by rw [e 362 (by omega)], by rw [e 362 (by omega)]⟩
theorem KF.ic {h h' s : jH} {t : Int} (k : KF h h') (hI : IC h s t) : IC h' s t := by
  obtain ⟨a, b, c, d⟩ := hI
  have e0 := k.1 0 (by omega)
  refine ⟨k.rs a, ?_, ?_, ?_⟩
  · exact IC.undo_same b (by rw [e0]) (by rw [e0]) (k.1 308 (by omega)) (fun x x1 x2 => k.1 x (by omega))
  · unfold RT at c ⊢
    rw [k.1 309 (by omega), k.1 310 (by omega)]; exact c
  · unfold RN at d ⊢
    rw [e0, k.1 311 (by omega), k.1 312 (by omega), k.2.1, k.2.2.1, k.2.2.2.1, k.2.2.2.2]; exact d
theorem PK.rd {h h' s : jH} {t A : Int} (hI : IC h s t) (kf : KF h h') : PK h t (A, s) A h' := ⟨rfl, (kf.ic hI).mono (by omega), fun x hx => kf.1 x (Or.inr hx)⟩
theorem PRF.rd {m h' : jH} {A : Int} (r : RF m h') : PRF (A, m) A h' := ⟨rfl, r⟩
theorem RF.of {a b : jH} (e : ∀ x, x < 388 ∨ (389 ≤ x ∧ x ≤ 393) ∨ 434 ≤ x → b x = a x) (g : ∀ q, q = 1 ∨ q = 6 ∨ q = 8 ∨ q = 45 ∨ q = 48 ∨ q = 49 ∨ q = 59 ∨ q = 74 → b 388 q = a 388 q) : RF a b := ⟨e, g⟩
theorem AgD.rd {s s' : jH} {A A' : Int} (h : Ag s s') (e : A = A') : AgD (A, s) (A', s') := ⟨e, h⟩
theorem cmA_congr {R a b : Nat → Int} {n k : Nat} (e : ∀ i, i < n → a i = b i) (hk : k < n) : cmA R a k = cmA R b k := by
  rw [cmA, cmA]
  by_cases c : k = 0
  · rw [if_pos c, if_pos c]
  · rw [if_neg c, if_neg c, e k hk, e (k - 1) (by omega)]
theorem mxA_congr {R a b : Nat → Int} {n : Nat} (e : ∀ i, i < n → a i = b i) : ∀ k, k ≤ n → mxA R a k = mxA R b k := by
  intro k
  induction k with
  | zero => intro _; rfl
  | succ k ih => intro hk; rw [mxA, mxA, ih (by omega), cmA_congr e (by omega)]
theorem lwA_congr {R a b : Nat → Int} {m : Int} {n : Nat} (e : ∀ i, i < n → a i = b i) : ∀ k, k ≤ n → lwA R a m k = lwA R b m k := by
  intro k
  induction k with
  | zero => intro _; rfl
  | succ k ih => intro hk; rw [lwA, lwA, ih (by omega), cmA_congr e (by omega), e k (by omega), e (k - 1) (by omega)]
theorem knF_congr {R a b : Nat → Int} {x : Int} {n : Nat} (e : ∀ i, i < n → a i = b i) : sm (knF R a x) n = sm (knF R b x) n := sm_congr n (fun i hi => by rw [knF, knF, cmA_congr e hi, e i hi])
/-- the lowest place of those that go on the longest, so far -/
def rpA (R a : Nat → Int) (k : Nat) : Int := if mxA R a k = 0 then -1 else lwA R a (mxA R a k) k
theorem mxA_ge {R a : Nat → Int} : ∀ k j, j < k → (cmA R a j : Int) ≤ mxA R a k := by
  intro k
  induction k with
  | zero => intro j hj; omega
  | succ k ih =>
    intro j hj
    rw [mxA]
    by_cases c : j = k
    · subst c; omega
    · have := ih j (by omega); omega
theorem mxA_0 {R a : Nat → Int} : ∀ k, 0 ≤ mxA R a k := by
  intro k
  induction k with
  | zero => exact Int.le_refl _
  | succ k ih => rw [mxA]; omega
theorem lwA_none {R a : Nat → Int} {m : Int} : ∀ k, (∀ j, j < k → (cmA R a j : Int) < m) → lwA R a m k = -1 := by
  intro k
  induction k with
  | zero => intro _; rfl
  | succ k ih =>
    intro h
    have := h k (by omega)
    rw [lwA, if_neg (by omega)]
    exact ih (fun j hj => h j (by omega))
theorem lwA_ge {R a : Nat → Int} {m : Int} {n : Nat} (h0 : ∀ i, i < n → 0 ≤ a i) : ∀ k, k ≤ n → -1 ≤ lwA R a m k := by
  intro k
  induction k with
  | zero => intro _; exact Int.le_refl _
  | succ k ih =>
    intro hk
    have y := ih (by omega)
    have x1 := h0 k (by omega)
    have x2 := h0 (k - 1) (by omega)
    rw [lwA]
    by_cases c : k ≠ 0 ∧ (cmA R a k : Int) = m
    · rw [if_pos c]
      by_cases d : lwA R a m k = -1
      · rw [if_pos d]; omega
      · rw [if_neg d]; omega
    · rw [if_neg c]; exact y
theorem lwA_some {R a : Nat → Int} {m : Int} {n : Nat} (h0 : ∀ i, i < n → 0 ≤ a i) : ∀ k, k ≤ n → ∀ j, j < k → j ≠ 0 → (cmA R a j : Int) = m → 0 ≤ lwA R a m k := by
  intro k
  induction k with
  | zero => intro _ j hj; omega
  | succ k ih =>
    intro hk j hj j0 hm
    have y := lwA_ge (R := R) (m := m) h0 k (by omega)
    have x1 := h0 k (by omega)
    have x2 := h0 (k - 1) (by omega)
    rw [lwA]
    by_cases c : k ≠ 0 ∧ (cmA R a k : Int) = m
    · rw [if_pos c]
      by_cases d : lwA R a m k = -1
      · rw [if_pos d]; omega
      · rw [if_neg d]; omega
    · rw [if_neg c]
      by_cases e : j = k
      · subst e; exact (c ⟨j0, hm⟩).elim
      · exact ih (by omega) j (by omega) j0 hm
theorem mxA_at {R a : Nat → Int} : ∀ k, 0 < mxA R a k → ∃ j, j < k ∧ j ≠ 0 ∧ (cmA R a j : Int) = mxA R a k := by
  intro k
  induction k with
  | zero => intro h; exact absurd h (by rw [mxA]; omega)
  | succ k ih =>
    intro h
    rw [mxA] at h ⊢
    by_cases c : mxA R a k < (cmA R a k : Int)
    · refine ⟨k, by omega, fun e => ?_, by omega⟩
      have : cmA R a k = 0 := by rw [cmA, if_pos e]
      have := mxA_0 (R := R) (a := a) k
      omega
    · obtain ⟨j, j1, j2, j3⟩ := ih (by omega)
      exact ⟨j, by omega, j2, by omega⟩
theorem rpA_step {R a : Nat → Int} {n k : Nat} (h0 : ∀ i, i < n → 0 ≤ a i) (hk : k < n) (k0 : k ≠ 0) : rpA R a (k + 1) = if mxA R a k < (cmA R a k : Int) ∨ ((cmA R a k : Int) = mxA R a k ∧ 0 < (cmA R a k : Int) ∧ min (a (k - 1)) (a k) < rpA R a k) then min (a (k - 1)) (a k) else rpA R a k := by
  have m0 := mxA_0 (R := R) (a := a) k
  have em : mxA R a (k + 1) = max (mxA R a k) (cmA R a k : Int) := by rw [mxA]
  by_cases c1 : mxA R a k < (cmA R a k : Int)
  · have e : mxA R a (k + 1) = (cmA R a k : Int) := by omega
    rw [if_pos (Or.inl c1), rpA, e, if_neg (by omega), lwA, if_pos ⟨k0, rfl⟩, if_pos (lwA_none k (fun j hj => by have := mxA_ge (R := R) (a := a) k j hj; omega))]
  · have e : mxA R a (k + 1) = mxA R a k := by omega
    by_cases c2 : mxA R a k = 0
    · rw [if_neg (by omega), rpA, e, if_pos c2, rpA, if_pos c2]
    · have er : rpA R a k = lwA R a (mxA R a k) k := by rw [rpA, if_neg c2]
      obtain ⟨j, j1, j2, j3⟩ := mxA_at (R := R) (a := a) k (by omega)
      have l0 := lwA_some (R := R) (m := mxA R a k) h0 k (by omega) j j1 j2 j3
      rw [rpA, e, if_neg c2, lwA, er]
      by_cases c3 : (cmA R a k : Int) = mxA R a k
      · rw [if_pos ⟨k0, c3⟩, if_neg (by omega)]
        by_cases c4 : min (a (k - 1)) (a k) < lwA R a (mxA R a k) k
        · rw [if_pos (by omega)]; omega
        · rw [if_neg (by omega)]; omega
      · rw [if_neg (by omega), if_neg (by omega)]
def As (R : Nat → Int) (k w : Int) : Int := if 0 ≤ k ∧ k < ((srt R 64).2 : Int) then (if w = 0 then (srt R 64).1 k.toNat else if w = 1 then (tsz R ((srt R 64).1 k.toNat) : Int) else if w = 2 then (cmA R (srt R 64).1 k.toNat : Int) else -1) else -1
def Ak (R : Nat → Int) (x : Int) : Int := if 1 ≤ x ∧ x ≤ 64 then sm (knF R (srt R 64).1 x) (srt R 64).2 else -1
def Ar (R : Nat → Int) (w : Int) : Int := if w = 0 then mxA R (srt R 64).1 (srt R 64).2 else if w = 1 then rpA R (srt R 64).1 (srt R 64).2 else -1
def Dsorted (s : jH) (k w : Int) : Int × jH := (As (s 390) k w, s)
def Dkinds (s : jH) (x : Int) : Int × jH := (Ak (s 390) x, s)
def Drepeated (s : jH) (w : Int) : Int × jH := (Ar (s 390) w, s)
theorem Ag.sorted {s s' : jH} (h : Ag s s') (k w : Int) : AgD (Dsorted s k w) (Dsorted s' k w) := AgD.rd h (by rw [h 390 (by decide)])
theorem Ag.kinds {s s' : jH} (h : Ag s s') (k : Int) : AgD (Dkinds s k) (Dkinds s' k) := AgD.rd h (by rw [h 390 (by decide)])
theorem Ag.repeated {s s' : jH} (h : Ag s s') (k : Int) : AgD (Drepeated s k) (Drepeated s' k) := AgD.rd h (by rw [h 390 (by decide)])
set_option maxRecDepth 20000 in
set_option maxHeartbeats 1000000 in
theorem k_sorted (l : Launch) (h s : jH) (t k w : Int) (hI : IC h s t) (hk : jr k) (hw9 : jr w) : cI l 166 [.ref 0, .int (jI k), .int (jI w)] h (PK h t (Dsorted s k w)) := by
  have k1 := hk.1
  have k2 := hk.2
  have w1 := hw9.1
  have w2 := hw9.2
  refine cI.of rfl rfl ?_
  refine tl_aload_n rfl rfl ?_
  refine tl_getr (c := 11) (k9 := 10) (b := 313) rfl rfl rfl rfl ?_
  refine tl_aload_n rfl rfl ?_
  refine tl_getr (c := 11) (k9 := 0) (b := 1) rfl rfl rfl rfl ?_
  refine tl_v1v (c9 := 10) (k_sort l h (s 390) hI.1) rfl rfl rfl rfl rfl (Nat.le_of_ble_eq_true rfl) (fun h1 p1 => ?_)
  obtain ⟨⟨n, m1, hT⟩, fr⟩ := p1
  have kf : KF h h1 := KF.of (fun x hx => fr x (by omega) (by omega))
  have hR1 := kf.rs hI.1
  have ok := hI.ok
  have k2 := ok.2.1
  have hn := hT.cnt ok
  obtain ⟨en, ea⟩ := hT.srt ok
  refine tl_iload_n rfl rfl ?_
  show jT _ _ 12 _ _ _ _
  refine tl_if_lt (tgt := 26) rfl rfl ⟨by omega, by omega⟩ (fun c1 => ?_) (fun c1 => ?_)
  · skip
    refine tl_iconst rfl ?_
    refine tl_iret rfl ?_
    -- leaf 0 at 27
    refine ⟨_, rfl, ?_⟩
    rw [Dsorted, As, en]
    first | rw [if_neg (by omega)] | (rw [if_pos (by omega), ea _ (by omega)]; repeat (first | rw [if_pos (by omega)] | rw [if_neg (by omega)]))
    first | exact PK.rd hI kf | (rw [cmA_congr ea (by omega)]; exact PK.rd hI kf)
  · show jT _ _ 15 _ _ _ _
    refine tl_iload_n rfl rfl ?_
    refine tl_aload_n rfl rfl ?_
    refine tl_getr (c := 11) (k9 := 10) (b := 313) rfl rfl rfl rfl ?_
    refine tl_geti (c := 10) (k9 := 1) rfl rfl rfl ?_
    rw [m1]
    show jT _ _ 23 _ _ _ _
    refine tl_icmp_lt (tgt := 28) rfl rfl ⟨by omega, by omega⟩ ⟨by omega, by omega⟩ (fun c2 => ?_) (fun c2 => ?_)
    · skip
      refine tl_aload_n rfl rfl ?_
      refine tl_getr (c := 11) (k9 := 10) (b := 313) rfl rfl rfl rfl ?_
      refine tl_getr (c := 10) (k9 := 0) (b := 314) rfl rfl rfl rfl ?_
      refine tl_iload_n rfl rfl ?_
      refine tl_iald (n := 64) rfl rfl rfl (by omega) (by omega) ?_
      have ps := hT.pos (i := k.toNat) (by omega)
      refine tl_istore_n rfl (Nat.le_of_ble_eq_true rfl) rfl ?_
      show jT _ _ 38 _ _ _ _
      refine tl_iload_n rfl rfl ?_
      by_cases ct3 : w < 0 ∨ 2 < w
      · refine tl_tabO (tgt := 92) rfl ⟨by omega, by omega⟩ ct3 rfl ?_
        refine tl_iconst rfl ?_
        refine tl_iret rfl ?_
        -- leaf 1 at 93
        refine ⟨_, rfl, ?_⟩
        rw [Dsorted, As, en]
        first | rw [if_neg (by omega)] | (rw [if_pos (by omega), ea _ (by omega)]; repeat (first | rw [if_pos (by omega)] | rw [if_neg (by omega)]))
        first | exact PK.rd hI kf | (rw [cmA_congr ea (by omega)]; exact PK.rd hI kf)
      · have ct3b : w = 0 ∨ w = 1 ∨ w = 2 := by omega
        rcases ct3b with ct3b | ct3b | ct3b
        · refine tl_tabI (off := 25) (tgt := 64) rfl ⟨by omega, by omega⟩ (by omega) (by omega) (by rw [ct3b]; rfl) rfl ?_
          refine tl_iload_n rfl rfl ?_
          refine tl_iret rfl ?_
          -- leaf 2 at 65
          refine ⟨_, rfl, ?_⟩
          rw [Dsorted, As, en]
          first | rw [if_neg (by omega)] | (rw [if_pos (by omega), ea _ (by omega)]; repeat (first | rw [if_pos (by omega)] | rw [if_neg (by omega)]))
          first | exact PK.rd hI kf | (rw [cmA_congr ea (by omega)]; exact PK.rd hI kf)
        · refine tl_tabI (off := 27) (tgt := 66) rfl ⟨by omega, by omega⟩ (by omega) (by omega) (by rw [ct3b]; rfl) rfl ?_
          refine tl_aload_n rfl rfl ?_
          show jT _ _ 67 _ _ _ _
          refine tl_getr (c := 11) (k9 := 10) (b := 313) rfl rfl rfl rfl ?_
          refine tl_aload_n rfl rfl ?_
          refine tl_getr (c := 11) (k9 := 0) (b := 1) rfl rfl rfl rfl ?_
          refine tl_iload_n rfl rfl ?_
          refine tl_v2i (c9 := 10) (k_sizeOf l h1 (s 390) hR1 (h1 314 k.toNat) (by omega) (by omega)) rfl rfl rfl rfl rfl (Nat.le_of_ble_eq_true rfl) (fun z3 h3 p3 => ?_)
          obtain ⟨q3, rfl⟩ := p3
          have q3 := q3.symm
          subst q3
          refine tl_iret rfl ?_
          -- leaf 3 at 78
          refine ⟨_, rfl, ?_⟩
          rw [Dsorted, As, en]
          first | rw [if_neg (by omega)] | (rw [if_pos (by omega), ea _ (by omega)]; repeat (first | rw [if_pos (by omega)] | rw [if_neg (by omega)]))
          first | exact PK.rd hI kf | (rw [cmA_congr ea (by omega)]; exact PK.rd hI kf)
        · refine tl_tabI (off := 40) (tgt := 79) rfl ⟨by omega, by omega⟩ (by omega) (by omega) (by rw [ct3b]; rfl) rfl ?_
          refine tl_aload_n rfl rfl ?_
          show jT _ _ 80 _ _ _ _
          refine tl_getr (c := 11) (k9 := 10) (b := 313) rfl rfl rfl rfl ?_
          refine tl_aload_n rfl rfl ?_
          refine tl_getr (c := 11) (k9 := 0) (b := 1) rfl rfl rfl rfl ?_
          refine tl_iload_n rfl rfl ?_
          rw [show jI k = jI ((k.toNat : Nat) : Int) by congr 1; omega]
          refine tl_v2i (c9 := 10) (k_alikeA l h1 (s 390) hR1 n m1 hT k.toNat (by omega)) rfl rfl rfl rfl rfl (Nat.le_of_ble_eq_true rfl) (fun z4 h4 p4 => ?_)
          obtain ⟨q4, rfl⟩ := p4
          have q4 := q4.symm
          subst q4
          refine tl_iret rfl ?_
          -- leaf 4 at 91
          refine ⟨_, rfl, ?_⟩
          rw [Dsorted, As, en]
          first | rw [if_neg (by omega)] | (rw [if_pos (by omega), ea _ (by omega)]; repeat (first | rw [if_pos (by omega)] | rw [if_neg (by omega)]))
          first | exact PK.rd hI kf | (rw [cmA_congr ea (by omega)]; exact PK.rd hI kf)
    · show jT _ _ 26 _ _ _ _
      refine tl_iconst rfl ?_
      show jT _ _ 27 _ _ _ _
      refine tl_iret rfl ?_
      -- leaf 5 at 27
      refine ⟨_, rfl, ?_⟩
      rw [Dsorted, As, en]
      first | rw [if_neg (by omega)] | (rw [if_pos (by omega), ea _ (by omega)]; repeat (first | rw [if_pos (by omega)] | rw [if_neg (by omega)]))
      first | exact PK.rd hI kf | (rw [cmA_congr ea (by omega)]; exact PK.rd hI kf)
set_option maxRecDepth 20000 in
set_option maxHeartbeats 1000000 in
theorem k_kinds (l : Launch) (h s : jH) (t x : Int) (hI : IC h s t) (hx : jr x) : cI l 167 [.ref 0, .int (jI x)] h (PK h t (Dkinds s x)) := by
  have x1 := hx.1
  have x2 := hx.2
  refine cI.of rfl rfl ?_
  refine tl_iload_n rfl rfl ?_
  refine tl_iconst rfl ?_
  refine tl_icmp_lt (tgt := 11) rfl rfl ⟨by omega, by omega⟩ ⟨by omega, by omega⟩ (fun c1 => ?_) (fun c1 => ?_)
  · skip
    refine tl_iconst rfl ?_
    refine tl_iret rfl ?_
    -- leaf 0 at 12
    refine ⟨_, rfl, ?_⟩
    rw [Dkinds, Ak, if_neg (by omega)]
    exact PK.rd hI KF.rfl'
  · show jT _ _ 5 _ _ _ _
    refine tl_iload_n rfl rfl ?_
    show jT _ _ 6 _ _ _ _
    refine tl_bipush rfl rfl ?_
    refine tl_icmp_le (tgt := 13) rfl rfl ⟨by omega, by omega⟩ ⟨by omega, by omega⟩ (fun c2 => ?_) (fun c2 => ?_)
    · skip
      refine tl_aload_n rfl rfl ?_
      refine tl_getr (c := 11) (k9 := 10) (b := 313) rfl rfl rfl rfl ?_
      refine tl_aload_n rfl rfl ?_
      refine tl_getr (c := 11) (k9 := 0) (b := 1) rfl rfl rfl rfl ?_
      refine tl_v1v (c9 := 10) (k_sort l h (s 390) hI.1) rfl rfl rfl rfl rfl (Nat.le_of_ble_eq_true rfl) (fun h1 p1 => ?_)
      obtain ⟨⟨n, m1, hT⟩, fr⟩ := p1
      have kf : KF h h1 := KF.of (fun x hx => fr x (by omega) (by omega))
      have hR1 := kf.rs hI.1
      have ok := hI.ok
      have k2 := ok.2.1
      have hn := hT.cnt ok
      obtain ⟨en, ea⟩ := hT.srt ok
      show jT _ _ 24 _ _ _ _
      refine tl_aload_n rfl rfl ?_
      refine tl_getr (c := 11) (k9 := 10) (b := 313) rfl rfl rfl rfl ?_
      refine tl_aload_n rfl rfl ?_
      refine tl_getr (c := 11) (k9 := 0) (b := 1) rfl rfl rfl rfl ?_
      refine tl_iload_n rfl rfl ?_
      refine tl_v2i (c9 := 10) (k_countKinds l h1 (s 390) hR1 n m1 hT x (by omega) (by omega)) rfl rfl rfl rfl rfl (Nat.le_of_ble_eq_true rfl) (fun z4 h4 p4 => ?_)
      obtain ⟨q4, rfl⟩ := p4
      have q4 := q4.symm
      subst q4
      refine tl_iret rfl ?_
      -- leaf 1 at 36
      refine ⟨_, rfl, ?_⟩
      rw [Dkinds, Ak, if_pos (by omega), en, knF_congr ea]
      exact PK.rd hI kf
    · show jT _ _ 11 _ _ _ _
      show jT _ _ 11 _ _ _ _
      refine tl_iconst rfl ?_
      refine tl_iret rfl ?_
      -- leaf 2 at 12
      refine ⟨_, rfl, ?_⟩
      rw [Dkinds, Ak, if_neg (by omega)]
      exact PK.rd hI KF.rfl'
set_option maxRecDepth 20000 in
set_option maxHeartbeats 1000000 in
theorem k_repeated (l : Launch) (h s : jH) (t x : Int) (hI : IC h s t) (hx : jr x) : cI l 168 [.ref 0, .int (jI x)] h (PK h t (Drepeated s x)) := by
  have x1 := hx.1
  have x2 := hx.2
  refine cI.of rfl rfl ?_
  refine tl_iload_n rfl rfl ?_
  refine tl_if_lt (tgt := 9) rfl rfl ⟨by omega, by omega⟩ (fun c1 => ?_) (fun c1 => ?_)
  · skip
    refine tl_iconst rfl ?_
    refine tl_iret rfl ?_
    -- leaf 0 at 10
    refine ⟨_, rfl, ?_⟩
    rw [Drepeated, Ar, if_neg (by omega), if_neg (by omega)]
    exact PK.rd hI KF.rfl'
  · show jT _ _ 4 _ _ _ _
    refine tl_iload_n rfl rfl ?_
    refine tl_iconst rfl ?_
    show jT _ _ 6 _ _ _ _
    refine tl_icmp_le (tgt := 11) rfl rfl ⟨by omega, by omega⟩ ⟨by omega, by omega⟩ (fun c2 => ?_) (fun c2 => ?_)
    · skip
      refine tl_aload_n rfl rfl ?_
      refine tl_getr (c := 11) (k9 := 10) (b := 313) rfl rfl rfl rfl ?_
      refine tl_aload_n rfl rfl ?_
      refine tl_getr (c := 11) (k9 := 0) (b := 1) rfl rfl rfl rfl ?_
      refine tl_v1v (c9 := 10) (k_sort l h (s 390) hI.1) rfl rfl rfl rfl rfl (Nat.le_of_ble_eq_true rfl) (fun h1 p1 => ?_)
      obtain ⟨⟨n, m1, hT⟩, fr⟩ := p1
      have kf : KF h h1 := KF.of (fun x hx => fr x (by omega) (by omega))
      have hR1 := kf.rs hI.1
      have ok := hI.ok
      have k2 := ok.2.1
      have hn := hT.cnt ok
      obtain ⟨en, ea⟩ := hT.srt ok
      refine tl_aload_n rfl rfl ?_
      show jT _ _ 23 _ _ _ _
      refine tl_getr (c := 11) (k9 := 10) (b := 313) rfl rfl rfl rfl ?_
      refine tl_aload_n rfl rfl ?_
      refine tl_getr (c := 11) (k9 := 0) (b := 1) rfl rfl rfl rfl ?_
      refine tl_v1i (c9 := 10) (k_longR l h1 (s 390) hR1 n m1 hT) rfl rfl rfl rfl rfl (Nat.le_of_ble_eq_true rfl) (fun z4 h4 p4 => ?_)
      obtain ⟨q4, rfl⟩ := p4
      have q4 := q4.symm
      subst q4
      have mb := mxA_b ok hT n (by omega)
      refine tl_istore_n rfl (Nat.le_of_ble_eq_true rfl) rfl ?_
      refine tl_iload_n rfl rfl ?_
      refine tl_if_ne (tgt := 40) rfl rfl ⟨by omega, by omega⟩ (fun c3 => ?_) (fun c3 => ?_)
      · skip
        show jT _ _ 40 _ _ _ _
        refine tl_iload_n rfl rfl ?_
        refine tl_if_ne (tgt := 48) rfl rfl ⟨by omega, by omega⟩ (fun c4 => ?_) (fun c4 => ?_)
        · skip
          refine tl_aload_n rfl rfl ?_
          refine tl_getr (c := 11) (k9 := 10) (b := 313) rfl rfl rfl rfl ?_
          refine tl_aload_n rfl rfl ?_
          refine tl_getr (c := 11) (k9 := 0) (b := 1) rfl rfl rfl rfl ?_
          refine tl_iload_n rfl rfl ?_
          show jT _ _ 57 _ _ _ _
          refine tl_v2i (c9 := 10) (k_lowR l h1 (s 390) hR1 n m1 hT _ mb.1 mb.2) rfl rfl rfl rfl rfl (Nat.le_of_ble_eq_true rfl) (fun z5 h5 p5 => ?_)
          obtain ⟨q5, rfl⟩ := p5
          have q5 := q5.symm
          subst q5
          refine tl_iret rfl ?_
          -- leaf 1 at 60
          refine ⟨_, rfl, ?_⟩
          rw [Drepeated, Ar, if_neg (by omega), if_pos (by omega), en, rpA, mxA_congr ea n (by omega)]
          first | rw [if_pos (by omega)] | rw [if_neg (by omega), lwA_congr ea n (by omega)]
          exact PK.rd hI kf
        · show jT _ _ 44 _ _ _ _
          refine tl_iconst rfl ?_
          refine tl_goto (tgt := 60) rfl rfl ?_
          refine tl_iret rfl ?_
          -- leaf 2 at 60
          refine ⟨_, rfl, ?_⟩
          rw [Drepeated, Ar, if_neg (by omega), if_pos (by omega), en, rpA, mxA_congr ea n (by omega)]
          first | rw [if_pos (by omega)] | rw [if_neg (by omega), lwA_congr ea n (by omega)]
          exact PK.rd hI kf
      · show jT _ _ 38 _ _ _ _
        refine tl_iload_n rfl rfl ?_
        refine tl_iret rfl ?_
        -- leaf 3 at 39
        refine ⟨_, rfl, ?_⟩
        rw [Drepeated, Ar, if_pos (by omega), en, mxA_congr ea n (by omega)]
        exact PK.rd hI kf
    · show jT _ _ 9 _ _ _ _
      show jT _ _ 9 _ _ _ _
      refine tl_iconst rfl ?_
      refine tl_iret rfl ?_
      -- leaf 4 at 10
      refine ⟨_, rfl, ?_⟩
      rw [Drepeated, Ar, if_neg (by omega), if_neg (by omega)]
      exact PK.rd hI KF.rfl'
set_option maxRecDepth 20000 in
set_option maxHeartbeats 1000000 in
theorem r_sorted (l : Launch) (g h : jH) (t k w : Int) (hI0 : IC g h t) (hk : jr k) (hw9 : jr w) : cI l 238 [.ref 388, .int (jI k), .int (jI w)] h (PRF (Dsorted (Tz h) k w)) := by
  have k1 := hk.1
  have k2 := hk.2
  have w1 := hw9.1
  have w2 := hw9.2
  refine cI.of rfl rfl ?_
  refine tl_aload_n rfl rfl ?_
  refine tl_iconst rfl ?_
  refine tl_puti (c := 12) (k9 := 0) rfl rfl rfl rfl ?_
  have hI := hI0.z
  change jT _ _ _ _ _ (Tz h) _
  generalize Tz h = m at hI ⊢
  have ok := hI.ok
  refine tl_aload_n rfl rfl ?_
  refine tl_v0v (c9 := 12) (r_layTails l m ok) rfl rfl rfl rfl rfl (Nat.le_of_ble_eq_true rfl) (fun h1 p1 => ?_)
  obtain ⟨⟨n, m1, hT, hL⟩, fr, fr2⟩ := p1
  have k2 := ok.2.1
  have hn := hT.cnt ok
  obtain ⟨en, ea⟩ := hT.srt ok
  have rf : RF m h1 := RF.of (fun x hx => fr x (by omega) (by omega) (by omega)) (fun q hq => fr2 q (by omega))
  have hT1 : TSr (m 390) h1 n := ⟨fr 390 (by decide) (by decide) (by decide), m1, hT, hL⟩
  refine tl_iload_n rfl rfl ?_
  show jT _ _ 10 _ _ _ _
  refine tl_i2l rfl ⟨by omega, by omega⟩ ?_
  refine tl_lconst (z := 0) rfl rfl ?_
  refine tl_aload_n rfl rfl ?_
  refine tl_geti (c := 12) (k9 := 13) rfl rfl rfl ?_
  rw [m1]
  refine tl_i2l rfl ⟨by omega, by omega⟩ ?_
  refine tl_lconst (z := 1) rfl rfl ?_
  refine tl_lsub rfl ?_
  show jT _ _ 19 _ _ _ _
  refine tl_s3i (c_in l _ _ _ _ ⟨by omega, by omega⟩ ⟨by omega, by omega⟩ ⟨by omega, by omega⟩) rfl rfl rfl (Nat.le_of_ble_eq_true rfl) (fun z2 h2 p2 => ?_)
  obtain ⟨q2, p2⟩ := p2
  have q2 := q2.symm
  subst q2
  have b2 : z2 = 0 ∨ z2 = 1 := by rw [p2]; split <;> omega
  refine tl_if_ne (tgt := 27) rfl rfl ⟨by omega, by omega⟩ (fun c1 => ?_) (fun c1 => ?_)
  · skip
    refine tl_iload_n rfl rfl ?_
    refine tl_if_ne (tgt := 40) rfl rfl ⟨by omega, by omega⟩ (fun c2 => ?_) (fun c2 => ?_)
    · skip
      refine tl_iload_n rfl rfl ?_
      refine tl_iconst rfl ?_
      refine tl_icmp_ne (tgt := 54) rfl rfl ⟨by omega, by omega⟩ ⟨by omega, by omega⟩ (fun c3 => ?_) (fun c3 => ?_)
      · skip
        show jT _ _ 54 _ _ _ _
        refine tl_iload_n rfl rfl ?_
        refine tl_iconst rfl ?_
        refine tl_icmp_ne (tgt := 67) rfl rfl ⟨by omega, by omega⟩ ⟨by omega, by omega⟩ (fun c4 => ?_) (fun c4 => ?_)
        · skip
          refine tl_iconst rfl ?_
          refine tl_iret rfl ?_
          -- leaf 0 at 68
          refine ⟨_, rfl, ?_⟩
          rw [Dsorted, As, en]
          first | rw [if_neg (by omega)] | (rw [if_pos (by omega), ea _ (by omega)]; repeat (first | rw [if_pos (by omega)] | rw [if_neg (by omega)]))
          first | exact PRF.rd rf | (rw [cmA_congr ea (by omega)]; exact PRF.rd rf)
        · show jT _ _ 59 _ _ _ _
          refine tl_aload_n rfl rfl ?_
          refine tl_iload_n rfl rfl ?_
          rw [show jI k = jI ((k.toNat : Nat) : Int) by congr 1; omega]
          show jT _ _ 61 _ _ _ _
          refine tl_v1i (c9 := 12) (r_commonAt l h1 (m 390) ok n hT1 k.toNat (by omega)) rfl rfl rfl rfl rfl (Nat.le_of_ble_eq_true rfl) (fun z4 h4 p4 => ?_)
          obtain ⟨q4, rfl⟩ := p4
          have q4 := q4.symm
          subst q4
          have cb := cmA_b ok hT (k := k.toNat) (by omega)
          refine tl_goto (tgt := 68) rfl rfl ?_
          refine tl_iret rfl ?_
          -- leaf 1 at 68
          refine ⟨_, rfl, ?_⟩
          rw [Dsorted, As, en]
          first | rw [if_neg (by omega)] | (rw [if_pos (by omega), ea _ (by omega)]; repeat (first | rw [if_pos (by omega)] | rw [if_neg (by omega)]))
          first | exact PRF.rd rf | (rw [cmA_congr ea (by omega)]; exact PRF.rd rf)
      · show jT _ _ 45 _ _ _ _
        refine tl_aload_n rfl rfl ?_
        refine tl_getr (c := 12) (k9 := 12) (b := 397) rfl rfl rfl rfl ?_
        refine tl_iload_n rfl rfl ?_
        refine tl_iald (n := 64) rfl rfl rfl (by omega) (by omega) ?_
        rw [hL _ (by omega)]
        show jT _ _ 51 _ _ _ _
        refine tl_goto (tgt := 68) rfl rfl ?_
        refine tl_iret rfl ?_
        -- leaf 2 at 68
        refine ⟨_, rfl, ?_⟩
        rw [Dsorted, As, en]
        first | rw [if_neg (by omega)] | (rw [if_pos (by omega), ea _ (by omega)]; repeat (first | rw [if_pos (by omega)] | rw [if_neg (by omega)]))
        first | exact PRF.rd rf | (rw [cmA_congr ea (by omega)]; exact PRF.rd rf)
    · show jT _ _ 31 _ _ _ _
      refine tl_aload_n rfl rfl ?_
      refine tl_getr (c := 12) (k9 := 11) (b := 396) rfl rfl rfl rfl ?_
      refine tl_iload_n rfl rfl ?_
      refine tl_iald (n := 64) rfl rfl rfl (by omega) (by omega) ?_
      refine tl_goto (tgt := 68) rfl rfl ?_
      show jT _ _ 68 _ _ _ _
      refine tl_iret rfl ?_
      -- leaf 3 at 68
      refine ⟨_, rfl, ?_⟩
      rw [Dsorted, As, en]
      first | rw [if_neg (by omega)] | (rw [if_pos (by omega), ea _ (by omega)]; repeat (first | rw [if_pos (by omega)] | rw [if_neg (by omega)]))
      first | exact PRF.rd rf | (rw [cmA_congr ea (by omega)]; exact PRF.rd rf)
  · show jT _ _ 25 _ _ _ _
    refine tl_iconst rfl ?_
    refine tl_iret rfl ?_
    -- leaf 4 at 26
    refine ⟨_, rfl, ?_⟩
    rw [Dsorted, As, en]
    first | rw [if_neg (by omega)] | (rw [if_pos (by omega), ea _ (by omega)]; repeat (first | rw [if_pos (by omega)] | rw [if_neg (by omega)]))
    first | exact PRF.rd rf | (rw [cmA_congr ea (by omega)]; exact PRF.rd rf)
set_option maxRecDepth 20000 in
set_option maxHeartbeats 1000000 in
theorem r_kinds_lp (l : Launch) (h1 : jH) (R : Nat → Int) (ok : Rok R) (n : Nat) (hT1 : TSr R h1 n) (x : Int) (x1 : 1 ≤ x) (x2 : x ≤ 64) (P : Option Value → jH → Prop) (hP : P (some (.int (jI (sm (knF R (h1 396) x) n)))) h1) : ∀ (m k : Nat), n - k < m → k ≤ n → jT l 239 27 [some (.ref 388), some (.int (jI x)), some (.int (jI (sm (knF R (h1 396) x) k))), some (.int (jI (k : Int)))] [] h1 P := by
  obtain ⟨e390, m1, hT, hL⟩ := hT1
  have hT1 : TSr R h1 n := ⟨e390, m1, hT, hL⟩
  have hn := hT.cnt ok
  have k2 := ok.2.1
  intro m
  induction m with
  | zero => intro k hk; omega
  | succ m ih =>
    intro k hk hkK
    have sb := sm_b (f := knF R (h1 396) x) k (fun i _ => knF_b i)
    refine tl_iload_n rfl rfl ?_
    refine tl_aload_n rfl rfl ?_
    refine tl_geti (c := 12) (k9 := 13) rfl rfl rfl ?_
    rw [m1]
    refine tl_icmp_ge (tgt := 68) rfl rfl ⟨by omega, by omega⟩ ⟨by omega, by omega⟩ (fun c1 => ?_) (fun c1 => ?_)
    · skip
      refine tl_iload_n rfl rfl ?_
      refine tl_iret rfl ?_
      -- leaf 0 at 69
      have e : k = n := by omega
      rw [← e] at hP
      exact hP
    · show jT _ _ 35 _ _ _ _
      show jT _ _ 35 _ _ _ _
      refine tl_iload_n rfl rfl ?_
      refine tl_aload_n rfl rfl ?_
      refine tl_getr (c := 12) (k9 := 12) (b := 397) rfl rfl rfl rfl ?_
      refine tl_iload_n rfl rfl ?_
      refine tl_iald (n := 64) rfl rfl rfl (by omega) (by omega) ?_
      rw [Int.toNat_natCast, hL k (by omega)]
      have y1 := hT.pos (i := k) (by omega)
      have y2 := (tsz_s ok y1.1).1
      refine tl_iload_n rfl rfl ?_
      refine tl_icmp_lt (tgt := 59) rfl rfl ⟨by omega, by omega⟩ ⟨by omega, by omega⟩ (fun c2 => ?_) (fun c2 => ?_)
      · skip
        show jT _ _ 59 _ _ _ _
        refine tl_iconst rfl ?_
        refine tl_iadd rfl ?_
        refine tl_istore_n rfl (Nat.le_of_ble_eq_true rfl) rfl ?_
        refine tl_iinc rfl rfl rfl ?_
        refine tl_goto (tgt := 27) rfl rfl ?_
        show jT _ _ 27 _ _ _ _
        -- leaf 1 at 27
        first
          | (have e : sm (knF R (h1 396) x) (k + 1) = sm (knF R (h1 396) x) k + 1 := by rw [sm]; congr 1; rw [knF, if_pos (by omega)]
             have := ih (k + 1) (by omega) (by omega)
             rw [e] at this
             exact this)
          | (have e : sm (knF R (h1 396) x) (k + 1) = sm (knF R (h1 396) x) k + 0 := by rw [sm, knF, if_neg (by omega)]
             have := ih (k + 1) (by omega) (by omega)
             rw [e] at this
             exact this)
      · show jT _ _ 46 _ _ _ _
        refine tl_aload_n rfl rfl ?_
        refine tl_iload_n rfl rfl ?_
        show jT _ _ 48 _ _ _ _
        refine tl_v1i (c9 := 12) (r_commonAt l h1 R ok n hT1 k (by omega)) rfl rfl rfl rfl rfl (Nat.le_of_ble_eq_true rfl) (fun z4 h4 p4 => ?_)
        obtain ⟨q4, rfl⟩ := p4
        have q4 := q4.symm
        subst q4
        have cb := cmA_b ok hT (k := k) (by omega)
        refine tl_iload_n rfl rfl ?_
        refine tl_icmp_ge (tgt := 59) rfl rfl ⟨by omega, by omega⟩ ⟨by omega, by omega⟩ (fun c3 => ?_) (fun c3 => ?_)
        · skip
          refine tl_iconst rfl ?_
          refine tl_iadd rfl ?_
          refine tl_istore_n rfl (Nat.le_of_ble_eq_true rfl) rfl ?_
          refine tl_iinc rfl rfl rfl ?_
          show jT _ _ 65 _ _ _ _
          refine tl_goto (tgt := 27) rfl rfl ?_
          show jT _ _ 27 _ _ _ _
          -- leaf 2 at 27
          first
            | (have e : sm (knF R (h1 396) x) (k + 1) = sm (knF R (h1 396) x) k + 1 := by rw [sm]; congr 1; rw [knF, if_pos (by omega)]
               have := ih (k + 1) (by omega) (by omega)
               rw [e] at this
               exact this)
            | (have e : sm (knF R (h1 396) x) (k + 1) = sm (knF R (h1 396) x) k + 0 := by rw [sm, knF, if_neg (by omega)]
               have := ih (k + 1) (by omega) (by omega)
               rw [e] at this
               exact this)
        · show jT _ _ 55 _ _ _ _
          refine tl_iconst rfl ?_
          refine tl_goto (tgt := 60) rfl rfl ?_
          refine tl_iadd rfl ?_
          refine tl_istore_n rfl (Nat.le_of_ble_eq_true rfl) rfl ?_
          refine tl_iinc rfl rfl rfl ?_
          refine tl_goto (tgt := 27) rfl rfl ?_
          show jT _ _ 27 _ _ _ _
          -- leaf 3 at 27
          first
            | (have e : sm (knF R (h1 396) x) (k + 1) = sm (knF R (h1 396) x) k + 1 := by rw [sm]; congr 1; rw [knF, if_pos (by omega)]
               have := ih (k + 1) (by omega) (by omega)
               rw [e] at this
               exact this)
            | (have e : sm (knF R (h1 396) x) (k + 1) = sm (knF R (h1 396) x) k + 0 := by rw [sm, knF, if_neg (by omega)]
               have := ih (k + 1) (by omega) (by omega)
               rw [e] at this
               exact this)
set_option maxRecDepth 20000 in
set_option maxHeartbeats 1000000 in
theorem r_kinds (l : Launch) (g h : jH) (t x : Int) (hI0 : IC g h t) (hx : jr x) : cI l 239 [.ref 388, .int (jI x)] h (PRF (Dkinds (Tz h) x)) := by
  have x1 := hx.1
  have x2 := hx.2
  refine cI.of rfl rfl ?_
  refine tl_aload_n rfl rfl ?_
  refine tl_iconst rfl ?_
  refine tl_puti (c := 12) (k9 := 0) rfl rfl rfl rfl ?_
  have hI := hI0.z
  change jT _ _ _ _ _ (Tz h) _
  generalize Tz h = m at hI ⊢
  have ok := hI.ok
  refine tl_iload_n rfl rfl ?_
  refine tl_i2l rfl ⟨by omega, by omega⟩ ?_
  refine tl_lconst (z := 1) rfl rfl ?_
  show jT _ _ 8 _ _ _ _
  refine tl_ldc2 (z := 64) rfl (by decide +kernel) ?_
  refine tl_s3i (c_in l _ _ _ _ ⟨by omega, by omega⟩ ⟨by omega, by omega⟩ ⟨by omega, by omega⟩) rfl rfl rfl (Nat.le_of_ble_eq_true rfl) (fun z2 h2 p2 => ?_)
  obtain ⟨q2, p2⟩ := p2
  have q2 := q2.symm
  subst q2
  have b2 : z2 = 0 ∨ z2 = 1 := by rw [p2]; split <;> omega
  refine tl_if_ne (tgt := 19) rfl rfl ⟨by omega, by omega⟩ (fun c1 => ?_) (fun c1 => ?_)
  · skip
    refine tl_aload_n rfl rfl ?_
    refine tl_v0v (c9 := 12) (r_layTails l m ok) rfl rfl rfl rfl rfl (Nat.le_of_ble_eq_true rfl) (fun h1 p1 => ?_)
    obtain ⟨⟨n, m1, hT, hL⟩, fr, fr2⟩ := p1
    have k2 := ok.2.1
    have hn := hT.cnt ok
    obtain ⟨en, ea⟩ := hT.srt ok
    have rf : RF m h1 := RF.of (fun x hx => fr x (by omega) (by omega) (by omega)) (fun q hq => fr2 q (by omega))
    have hT1 : TSr (m 390) h1 n := ⟨fr 390 (by decide) (by decide) (by decide), m1, hT, hL⟩
    refine tl_iconst rfl ?_
    refine tl_istore_n rfl (Nat.le_of_ble_eq_true rfl) rfl ?_
    show jT _ _ 25 _ _ _ _
    refine tl_iconst rfl ?_
    refine tl_istore_n rfl (Nat.le_of_ble_eq_true rfl) rfl ?_
    show jT _ _ 27 _ _ _ _
    -- leaf 0 at 27
    refine r_kinds_lp l h1 (m 390) ok n hT1 x (by omega) (by omega) _ ?_ _ 0 (Nat.lt_succ_self _) (Nat.zero_le _)
    refine ⟨_, rfl, ?_⟩
    rw [Dkinds, Ak, if_pos (by omega), en, knF_congr ea]
    exact PRF.rd rf
  · show jT _ _ 17 _ _ _ _
    refine tl_iconst rfl ?_
    refine tl_iret rfl ?_
    -- leaf 1 at 18
    refine ⟨_, rfl, ?_⟩
    rw [Dkinds, Ak, if_neg (by omega)]
    exact PRF.rd RF.rfl'
set_option maxRecDepth 20000 in
set_option maxHeartbeats 1000000 in
theorem r_rep_lp (l : Launch) (h1 : jH) (R : Nat → Int) (ok : Rok R) (n : Nat) (hT1 : TSr R h1 n) (x : Int) (P : Option Value → jH → Prop) (hx : ∀ (k : Nat) y y2, jT l 240 130 [some (.ref 388), some (.int (jI x)), some (.int (jI (mxA R (h1 396) n))), some (.int (jI (rpA R (h1 396) n))), some (.int (jI (k : Int))), y, y2] [] h1 P) : ∀ (m k : Nat) (y y2 : Option Value), (y = none ∨ ∃ z, y = some (.int (jI z))) → (y2 = none ∨ ∃ z, y2 = some (.int (jI z))) → n - k < m → (k ≤ n ∨ (n = 0 ∧ k = 1)) → 1 ≤ k → jT l 240 28 [some (.ref 388), some (.int (jI x)), some (.int (jI (mxA R (h1 396) k))), some (.int (jI (rpA R (h1 396) k))), some (.int (jI (k : Int))), y, y2] [] h1 P := by
  obtain ⟨e390, m1, hT, hL⟩ := hT1
  have hT1 : TSr R h1 n := ⟨e390, m1, hT, hL⟩
  have hn := hT.cnt ok
  have k2 := ok.2.1
  intro m
  induction m with
  | zero => intro k y y2 hy hy2 hk; omega
  | succ m ih =>
    intro k y y2 hy hy2 hk hkK hk1
    have em : mxA R (h1 396) (k + 1) = max (mxA R (h1 396) k) (cmA R (h1 396) k : Int) := by rw [mxA]
    refine tl_iload rfl rfl ?_
    refine tl_aload_n rfl rfl ?_
    refine tl_geti (c := 12) (k9 := 13) rfl rfl rfl ?_
    rw [m1]
    refine tl_icmp_ge (tgt := 130) rfl rfl ⟨by omega, by omega⟩ ⟨by omega, by omega⟩ (fun c1 => ?_) (fun c1 => ?_)
    · skip
      show jT _ _ 130 _ _ _ _
      -- leaf 0 at 130
      by_cases c : n = 0
      · have e1 : mxA R (h1 396) n = mxA R (h1 396) k := by rw [c, show k = 1 by omega, mxA, mxA, cmA, if_pos rfl]; rfl
        have e0 : mxA R (h1 396) n = 0 := by rw [c]; rfl
        have e2 : rpA R (h1 396) n = rpA R (h1 396) k := by rw [rpA, rpA, ← e1, if_pos e0, if_pos e0]
        have := hx k y y2
        rw [e1, e2] at this; exact this
      · have e : k = n := by omega
        have := hx k y y2
        rw [← e] at this; exact this
    · show jT _ _ 37 _ _ _ _
      have mb := mxA_b ok hT k (by omega)
      have ya := hT.p64 ok (i := k) (by omega)
      have yb := hT.p64 ok (i := k - 1) (by omega)
      have rb : -1 ≤ rpA R (h1 396) k ∧ rpA R (h1 396) k ≤ 63 := by (have := lwA_b ok hT (mxA R (h1 396) k) k (by omega); rw [rpA]; split <;> omega)
      have rs := rpA_step (R := R) (a := h1 396) (n := n) (k := k) (fun i hi => (hT.pos hi).1) (by omega) (by omega)
      refine tl_aload_n rfl rfl ?_
      refine tl_iload rfl rfl ?_
      show jT _ _ 40 _ _ _ _
      refine tl_v1i (c9 := 12) (r_commonAt l h1 R ok n hT1 k (by omega)) rfl rfl rfl rfl rfl (Nat.le_of_ble_eq_true rfl) (fun z4 h4 p4 => ?_)
      obtain ⟨q4, rfl⟩ := p4
      have q4 := q4.symm
      subst q4
      have cb := cmA_b ok hT (k := k) (by omega)
      refine tl_istore rfl (Nat.le_of_ble_eq_true rfl) rfl ?_
      refine tl_aload_n rfl rfl ?_
      refine tl_getr (c := 12) (k9 := 11) (b := 396) rfl rfl rfl rfl ?_
      refine tl_iload rfl rfl ?_
      refine tl_iald (n := 64) rfl rfl rfl (by omega) (by omega) ?_
      rw [Int.toNat_natCast]
      refine tl_aload_n rfl rfl ?_
      show jT _ _ 53 _ _ _ _
      refine tl_getr (c := 12) (k9 := 11) (b := 396) rfl rfl rfl rfl ?_
      refine tl_iload rfl rfl ?_
      refine tl_iconst rfl ?_
      refine tl_isub rfl ?_
      refine tl_iald (n := 64) rfl rfl rfl (by omega) (by omega) ?_
      rw [show ((k : Int) - 1).toNat = k - 1 by omega]
      refine tl_icmp_ge (tgt := 74) rfl rfl ⟨by omega, by omega⟩ ⟨by omega, by omega⟩ (fun c2 => ?_) (fun c2 => ?_)
      · skip
        refine tl_aload_n rfl rfl ?_
        show jT _ _ 75 _ _ _ _
        refine tl_getr (c := 12) (k9 := 11) (b := 396) rfl rfl rfl rfl ?_
        refine tl_iload rfl rfl ?_
        refine tl_iconst rfl ?_
        refine tl_isub rfl ?_
        refine tl_iald (n := 64) rfl rfl rfl (by omega) (by omega) ?_
        rw [show ((k : Int) - 1).toNat = k - 1 by omega]
        refine tl_istore rfl (Nat.le_of_ble_eq_true rfl) rfl ?_
        refine tl_iload rfl rfl ?_
        show jT _ _ 87 _ _ _ _
        refine tl_iload_n rfl rfl ?_
        refine tl_icmp_gt (tgt := 108) rfl rfl ⟨by omega, by omega⟩ ⟨by omega, by omega⟩ (fun c3 => ?_) (fun c3 => ?_)
        · skip
          refine tl_iload rfl rfl ?_
          refine tl_istore_n rfl (Nat.le_of_ble_eq_true rfl) rfl ?_
          refine tl_iload rfl rfl ?_
          refine tl_iload_n rfl rfl ?_
          refine tl_icmp_le (tgt := 122) rfl rfl ⟨by omega, by omega⟩ ⟨by omega, by omega⟩ (fun c4 => ?_) (fun c4 => ?_)
          · skip
            show jT _ _ 122 _ _ _ _
            refine tl_iload_n rfl rfl ?_
            refine tl_istore_n rfl (Nat.le_of_ble_eq_true rfl) rfl ?_
            refine tl_iinc rfl rfl rfl ?_
            refine tl_goto (tgt := 28) rfl rfl ?_
            show jT _ _ 28 _ _ _ _
            -- leaf 1 at 28
            first
              | (exfalso; omega)
              | (refine jT.loc ?_ (ih (k + 1) (some (.int (jI (cmA R (h1 396) k : Int)))) (some (.int (jI (h1 396 k)))) (Or.inr ⟨_, rfl⟩) (Or.inr ⟨_, rfl⟩) (by omega) (by omega) (by omega))
                 first
                   | (rw [show rpA R (h1 396) (k + 1) = h1 396 k by rw [rs, if_pos (by omega)]; omega, show mxA R (h1 396) (k + 1) = (cmA R (h1 396) k : Int) by omega]; rfl)
                   | (rw [show rpA R (h1 396) (k + 1) = h1 396 k by rw [rs, if_pos (by omega)]; omega, show mxA R (h1 396) (k + 1) = mxA R (h1 396) k by omega]; rfl)
                   | (rw [show rpA R (h1 396) (k + 1) = rpA R (h1 396) k by rw [rs, if_neg (by omega)], show mxA R (h1 396) (k + 1) = (cmA R (h1 396) k : Int) by omega]; rfl)
                   | (rw [show rpA R (h1 396) (k + 1) = rpA R (h1 396) k by rw [rs, if_neg (by omega)], show mxA R (h1 396) (k + 1) = mxA R (h1 396) k by omega]; rfl))
              | (refine jT.loc ?_ (ih (k + 1) (some (.int (jI (cmA R (h1 396) k : Int)))) (some (.int (jI (h1 396 (k - 1))))) (Or.inr ⟨_, rfl⟩) (Or.inr ⟨_, rfl⟩) (by omega) (by omega) (by omega))
                 first
                   | (rw [show rpA R (h1 396) (k + 1) = h1 396 (k - 1) by rw [rs, if_pos (by omega)]; omega, show mxA R (h1 396) (k + 1) = (cmA R (h1 396) k : Int) by omega]; rfl)
                   | (rw [show rpA R (h1 396) (k + 1) = h1 396 (k - 1) by rw [rs, if_pos (by omega)]; omega, show mxA R (h1 396) (k + 1) = mxA R (h1 396) k by omega]; rfl)
                   | (rw [show rpA R (h1 396) (k + 1) = rpA R (h1 396) k by rw [rs, if_neg (by omega)], show mxA R (h1 396) (k + 1) = (cmA R (h1 396) k : Int) by omega]; rfl)
                   | (rw [show rpA R (h1 396) (k + 1) = rpA R (h1 396) k by rw [rs, if_neg (by omega)], show mxA R (h1 396) (k + 1) = mxA R (h1 396) k by omega]; rfl))
          · show jT _ _ 117 _ _ _ _
            refine tl_iload rfl rfl ?_
            refine tl_goto (tgt := 123) rfl rfl ?_
            refine tl_istore_n rfl (Nat.le_of_ble_eq_true rfl) rfl ?_
            show jT _ _ 124 _ _ _ _
            refine tl_iinc rfl rfl rfl ?_
            refine tl_goto (tgt := 28) rfl rfl ?_
            show jT _ _ 28 _ _ _ _
            -- leaf 2 at 28
            first
              | (exfalso; omega)
              | (refine jT.loc ?_ (ih (k + 1) (some (.int (jI (cmA R (h1 396) k : Int)))) (some (.int (jI (h1 396 k)))) (Or.inr ⟨_, rfl⟩) (Or.inr ⟨_, rfl⟩) (by omega) (by omega) (by omega))
                 first
                   | (rw [show rpA R (h1 396) (k + 1) = h1 396 k by rw [rs, if_pos (by omega)]; omega, show mxA R (h1 396) (k + 1) = (cmA R (h1 396) k : Int) by omega]; rfl)
                   | (rw [show rpA R (h1 396) (k + 1) = h1 396 k by rw [rs, if_pos (by omega)]; omega, show mxA R (h1 396) (k + 1) = mxA R (h1 396) k by omega]; rfl)
                   | (rw [show rpA R (h1 396) (k + 1) = rpA R (h1 396) k by rw [rs, if_neg (by omega)], show mxA R (h1 396) (k + 1) = (cmA R (h1 396) k : Int) by omega]; rfl)
                   | (rw [show rpA R (h1 396) (k + 1) = rpA R (h1 396) k by rw [rs, if_neg (by omega)], show mxA R (h1 396) (k + 1) = mxA R (h1 396) k by omega]; rfl))
              | (refine jT.loc ?_ (ih (k + 1) (some (.int (jI (cmA R (h1 396) k : Int)))) (some (.int (jI (h1 396 (k - 1))))) (Or.inr ⟨_, rfl⟩) (Or.inr ⟨_, rfl⟩) (by omega) (by omega) (by omega))
                 first
                   | (rw [show rpA R (h1 396) (k + 1) = h1 396 (k - 1) by rw [rs, if_pos (by omega)]; omega, show mxA R (h1 396) (k + 1) = (cmA R (h1 396) k : Int) by omega]; rfl)
                   | (rw [show rpA R (h1 396) (k + 1) = h1 396 (k - 1) by rw [rs, if_pos (by omega)]; omega, show mxA R (h1 396) (k + 1) = mxA R (h1 396) k by omega]; rfl)
                   | (rw [show rpA R (h1 396) (k + 1) = rpA R (h1 396) k by rw [rs, if_neg (by omega)], show mxA R (h1 396) (k + 1) = (cmA R (h1 396) k : Int) by omega]; rfl)
                   | (rw [show rpA R (h1 396) (k + 1) = rpA R (h1 396) k by rw [rs, if_neg (by omega)], show mxA R (h1 396) (k + 1) = mxA R (h1 396) k by omega]; rfl))
        · show jT _ _ 91 _ _ _ _
          refine tl_iload rfl rfl ?_
          refine tl_iload_n rfl rfl ?_
          refine tl_icmp_ne (tgt := 111) rfl rfl ⟨by omega, by omega⟩ ⟨by omega, by omega⟩ (fun c5 => ?_) (fun c5 => ?_)
          · skip
            refine tl_iload rfl rfl ?_
            refine tl_iload_n rfl rfl ?_
            show jT _ _ 114 _ _ _ _
            refine tl_icmp_le (tgt := 122) rfl rfl ⟨by omega, by omega⟩ ⟨by omega, by omega⟩ (fun c6 => ?_) (fun c6 => ?_)
            · skip
              refine tl_iload_n rfl rfl ?_
              refine tl_istore_n rfl (Nat.le_of_ble_eq_true rfl) rfl ?_
              refine tl_iinc rfl rfl rfl ?_
              refine tl_goto (tgt := 28) rfl rfl ?_
              show jT _ _ 28 _ _ _ _
              -- leaf 3 at 28
              first
                | (exfalso; omega)
                | (refine jT.loc ?_ (ih (k + 1) (some (.int (jI (cmA R (h1 396) k : Int)))) (some (.int (jI (h1 396 k)))) (Or.inr ⟨_, rfl⟩) (Or.inr ⟨_, rfl⟩) (by omega) (by omega) (by omega))
                   first
                     | (rw [show rpA R (h1 396) (k + 1) = h1 396 k by rw [rs, if_pos (by omega)]; omega, show mxA R (h1 396) (k + 1) = (cmA R (h1 396) k : Int) by omega]; rfl)
                     | (rw [show rpA R (h1 396) (k + 1) = h1 396 k by rw [rs, if_pos (by omega)]; omega, show mxA R (h1 396) (k + 1) = mxA R (h1 396) k by omega]; rfl)
                     | (rw [show rpA R (h1 396) (k + 1) = rpA R (h1 396) k by rw [rs, if_neg (by omega)], show mxA R (h1 396) (k + 1) = (cmA R (h1 396) k : Int) by omega]; rfl)
                     | (rw [show rpA R (h1 396) (k + 1) = rpA R (h1 396) k by rw [rs, if_neg (by omega)], show mxA R (h1 396) (k + 1) = mxA R (h1 396) k by omega]; rfl))
                | (refine jT.loc ?_ (ih (k + 1) (some (.int (jI (cmA R (h1 396) k : Int)))) (some (.int (jI (h1 396 (k - 1))))) (Or.inr ⟨_, rfl⟩) (Or.inr ⟨_, rfl⟩) (by omega) (by omega) (by omega))
                   first
                     | (rw [show rpA R (h1 396) (k + 1) = h1 396 (k - 1) by rw [rs, if_pos (by omega)]; omega, show mxA R (h1 396) (k + 1) = (cmA R (h1 396) k : Int) by omega]; rfl)
                     | (rw [show rpA R (h1 396) (k + 1) = h1 396 (k - 1) by rw [rs, if_pos (by omega)]; omega, show mxA R (h1 396) (k + 1) = mxA R (h1 396) k by omega]; rfl)
                     | (rw [show rpA R (h1 396) (k + 1) = rpA R (h1 396) k by rw [rs, if_neg (by omega)], show mxA R (h1 396) (k + 1) = (cmA R (h1 396) k : Int) by omega]; rfl)
                     | (rw [show rpA R (h1 396) (k + 1) = rpA R (h1 396) k by rw [rs, if_neg (by omega)], show mxA R (h1 396) (k + 1) = mxA R (h1 396) k by omega]; rfl))
            · show jT _ _ 117 _ _ _ _
              refine tl_iload rfl rfl ?_
              refine tl_goto (tgt := 123) rfl rfl ?_
              show jT _ _ 123 _ _ _ _
              refine tl_istore_n rfl (Nat.le_of_ble_eq_true rfl) rfl ?_
              refine tl_iinc rfl rfl rfl ?_
              refine tl_goto (tgt := 28) rfl rfl ?_
              show jT _ _ 28 _ _ _ _
              -- leaf 4 at 28
              first
                | (exfalso; omega)
                | (refine jT.loc ?_ (ih (k + 1) (some (.int (jI (cmA R (h1 396) k : Int)))) (some (.int (jI (h1 396 k)))) (Or.inr ⟨_, rfl⟩) (Or.inr ⟨_, rfl⟩) (by omega) (by omega) (by omega))
                   first
                     | (rw [show rpA R (h1 396) (k + 1) = h1 396 k by rw [rs, if_pos (by omega)]; omega, show mxA R (h1 396) (k + 1) = (cmA R (h1 396) k : Int) by omega]; rfl)
                     | (rw [show rpA R (h1 396) (k + 1) = h1 396 k by rw [rs, if_pos (by omega)]; omega, show mxA R (h1 396) (k + 1) = mxA R (h1 396) k by omega]; rfl)
                     | (rw [show rpA R (h1 396) (k + 1) = rpA R (h1 396) k by rw [rs, if_neg (by omega)], show mxA R (h1 396) (k + 1) = (cmA R (h1 396) k : Int) by omega]; rfl)
                     | (rw [show rpA R (h1 396) (k + 1) = rpA R (h1 396) k by rw [rs, if_neg (by omega)], show mxA R (h1 396) (k + 1) = mxA R (h1 396) k by omega]; rfl))
                | (refine jT.loc ?_ (ih (k + 1) (some (.int (jI (cmA R (h1 396) k : Int)))) (some (.int (jI (h1 396 (k - 1))))) (Or.inr ⟨_, rfl⟩) (Or.inr ⟨_, rfl⟩) (by omega) (by omega) (by omega))
                   first
                     | (rw [show rpA R (h1 396) (k + 1) = h1 396 (k - 1) by rw [rs, if_pos (by omega)]; omega, show mxA R (h1 396) (k + 1) = (cmA R (h1 396) k : Int) by omega]; rfl)
                     | (rw [show rpA R (h1 396) (k + 1) = h1 396 (k - 1) by rw [rs, if_pos (by omega)]; omega, show mxA R (h1 396) (k + 1) = mxA R (h1 396) k by omega]; rfl)
                     | (rw [show rpA R (h1 396) (k + 1) = rpA R (h1 396) k by rw [rs, if_neg (by omega)], show mxA R (h1 396) (k + 1) = (cmA R (h1 396) k : Int) by omega]; rfl)
                     | (rw [show rpA R (h1 396) (k + 1) = rpA R (h1 396) k by rw [rs, if_neg (by omega)], show mxA R (h1 396) (k + 1) = mxA R (h1 396) k by omega]; rfl))
          · show jT _ _ 97 _ _ _ _
            refine tl_iload rfl rfl ?_
            refine tl_if_le (tgt := 111) rfl rfl ⟨by omega, by omega⟩ (fun c7 => ?_) (fun c7 => ?_)
            · skip
              refine tl_iload rfl rfl ?_
              refine tl_iload_n rfl rfl ?_
              show jT _ _ 114 _ _ _ _
              refine tl_icmp_le (tgt := 122) rfl rfl ⟨by omega, by omega⟩ ⟨by omega, by omega⟩ (fun c8 => ?_) (fun c8 => ?_)
              · skip
                refine tl_iload_n rfl rfl ?_
                refine tl_istore_n rfl (Nat.le_of_ble_eq_true rfl) rfl ?_
                refine tl_iinc rfl rfl rfl ?_
                refine tl_goto (tgt := 28) rfl rfl ?_
                show jT _ _ 28 _ _ _ _
                -- leaf 5 at 28
                first
                  | (exfalso; omega)
                  | (refine jT.loc ?_ (ih (k + 1) (some (.int (jI (cmA R (h1 396) k : Int)))) (some (.int (jI (h1 396 k)))) (Or.inr ⟨_, rfl⟩) (Or.inr ⟨_, rfl⟩) (by omega) (by omega) (by omega))
                     first
                       | (rw [show rpA R (h1 396) (k + 1) = h1 396 k by rw [rs, if_pos (by omega)]; omega, show mxA R (h1 396) (k + 1) = (cmA R (h1 396) k : Int) by omega]; rfl)
                       | (rw [show rpA R (h1 396) (k + 1) = h1 396 k by rw [rs, if_pos (by omega)]; omega, show mxA R (h1 396) (k + 1) = mxA R (h1 396) k by omega]; rfl)
                       | (rw [show rpA R (h1 396) (k + 1) = rpA R (h1 396) k by rw [rs, if_neg (by omega)], show mxA R (h1 396) (k + 1) = (cmA R (h1 396) k : Int) by omega]; rfl)
                       | (rw [show rpA R (h1 396) (k + 1) = rpA R (h1 396) k by rw [rs, if_neg (by omega)], show mxA R (h1 396) (k + 1) = mxA R (h1 396) k by omega]; rfl))
                  | (refine jT.loc ?_ (ih (k + 1) (some (.int (jI (cmA R (h1 396) k : Int)))) (some (.int (jI (h1 396 (k - 1))))) (Or.inr ⟨_, rfl⟩) (Or.inr ⟨_, rfl⟩) (by omega) (by omega) (by omega))
                     first
                       | (rw [show rpA R (h1 396) (k + 1) = h1 396 (k - 1) by rw [rs, if_pos (by omega)]; omega, show mxA R (h1 396) (k + 1) = (cmA R (h1 396) k : Int) by omega]; rfl)
                       | (rw [show rpA R (h1 396) (k + 1) = h1 396 (k - 1) by rw [rs, if_pos (by omega)]; omega, show mxA R (h1 396) (k + 1) = mxA R (h1 396) k by omega]; rfl)
                       | (rw [show rpA R (h1 396) (k + 1) = rpA R (h1 396) k by rw [rs, if_neg (by omega)], show mxA R (h1 396) (k + 1) = (cmA R (h1 396) k : Int) by omega]; rfl)
                       | (rw [show rpA R (h1 396) (k + 1) = rpA R (h1 396) k by rw [rs, if_neg (by omega)], show mxA R (h1 396) (k + 1) = mxA R (h1 396) k by omega]; rfl))
              · show jT _ _ 117 _ _ _ _
                refine tl_iload rfl rfl ?_
                refine tl_goto (tgt := 123) rfl rfl ?_
                show jT _ _ 123 _ _ _ _
                refine tl_istore_n rfl (Nat.le_of_ble_eq_true rfl) rfl ?_
                refine tl_iinc rfl rfl rfl ?_
                refine tl_goto (tgt := 28) rfl rfl ?_
                show jT _ _ 28 _ _ _ _
                -- leaf 6 at 28
                first
                  | (exfalso; omega)
                  | (refine jT.loc ?_ (ih (k + 1) (some (.int (jI (cmA R (h1 396) k : Int)))) (some (.int (jI (h1 396 k)))) (Or.inr ⟨_, rfl⟩) (Or.inr ⟨_, rfl⟩) (by omega) (by omega) (by omega))
                     first
                       | (rw [show rpA R (h1 396) (k + 1) = h1 396 k by rw [rs, if_pos (by omega)]; omega, show mxA R (h1 396) (k + 1) = (cmA R (h1 396) k : Int) by omega]; rfl)
                       | (rw [show rpA R (h1 396) (k + 1) = h1 396 k by rw [rs, if_pos (by omega)]; omega, show mxA R (h1 396) (k + 1) = mxA R (h1 396) k by omega]; rfl)
                       | (rw [show rpA R (h1 396) (k + 1) = rpA R (h1 396) k by rw [rs, if_neg (by omega)], show mxA R (h1 396) (k + 1) = (cmA R (h1 396) k : Int) by omega]; rfl)
                       | (rw [show rpA R (h1 396) (k + 1) = rpA R (h1 396) k by rw [rs, if_neg (by omega)], show mxA R (h1 396) (k + 1) = mxA R (h1 396) k by omega]; rfl))
                  | (refine jT.loc ?_ (ih (k + 1) (some (.int (jI (cmA R (h1 396) k : Int)))) (some (.int (jI (h1 396 (k - 1))))) (Or.inr ⟨_, rfl⟩) (Or.inr ⟨_, rfl⟩) (by omega) (by omega) (by omega))
                     first
                       | (rw [show rpA R (h1 396) (k + 1) = h1 396 (k - 1) by rw [rs, if_pos (by omega)]; omega, show mxA R (h1 396) (k + 1) = (cmA R (h1 396) k : Int) by omega]; rfl)
                       | (rw [show rpA R (h1 396) (k + 1) = h1 396 (k - 1) by rw [rs, if_pos (by omega)]; omega, show mxA R (h1 396) (k + 1) = mxA R (h1 396) k by omega]; rfl)
                       | (rw [show rpA R (h1 396) (k + 1) = rpA R (h1 396) k by rw [rs, if_neg (by omega)], show mxA R (h1 396) (k + 1) = (cmA R (h1 396) k : Int) by omega]; rfl)
                       | (rw [show rpA R (h1 396) (k + 1) = rpA R (h1 396) k by rw [rs, if_neg (by omega)], show mxA R (h1 396) (k + 1) = mxA R (h1 396) k by omega]; rfl))
            · show jT _ _ 102 _ _ _ _
              refine tl_iload rfl rfl ?_
              refine tl_iload_n rfl rfl ?_
              refine tl_icmp_ge (tgt := 111) rfl rfl ⟨by omega, by omega⟩ ⟨by omega, by omega⟩ (fun c9 => ?_) (fun c9 => ?_)
              · skip
                refine tl_iload rfl rfl ?_
                show jT _ _ 113 _ _ _ _
                refine tl_iload_n rfl rfl ?_
                refine tl_icmp_le (tgt := 122) rfl rfl ⟨by omega, by omega⟩ ⟨by omega, by omega⟩ (fun c10 => ?_) (fun c10 => ?_)
                · skip
                  refine tl_iload_n rfl rfl ?_
                  refine tl_istore_n rfl (Nat.le_of_ble_eq_true rfl) rfl ?_
                  refine tl_iinc rfl rfl rfl ?_
                  refine tl_goto (tgt := 28) rfl rfl ?_
                  show jT _ _ 28 _ _ _ _
                  -- leaf 7 at 28
                  first
                    | (exfalso; omega)
                    | (refine jT.loc ?_ (ih (k + 1) (some (.int (jI (cmA R (h1 396) k : Int)))) (some (.int (jI (h1 396 k)))) (Or.inr ⟨_, rfl⟩) (Or.inr ⟨_, rfl⟩) (by omega) (by omega) (by omega))
                       first
                         | (rw [show rpA R (h1 396) (k + 1) = h1 396 k by rw [rs, if_pos (by omega)]; omega, show mxA R (h1 396) (k + 1) = (cmA R (h1 396) k : Int) by omega]; rfl)
                         | (rw [show rpA R (h1 396) (k + 1) = h1 396 k by rw [rs, if_pos (by omega)]; omega, show mxA R (h1 396) (k + 1) = mxA R (h1 396) k by omega]; rfl)
                         | (rw [show rpA R (h1 396) (k + 1) = rpA R (h1 396) k by rw [rs, if_neg (by omega)], show mxA R (h1 396) (k + 1) = (cmA R (h1 396) k : Int) by omega]; rfl)
                         | (rw [show rpA R (h1 396) (k + 1) = rpA R (h1 396) k by rw [rs, if_neg (by omega)], show mxA R (h1 396) (k + 1) = mxA R (h1 396) k by omega]; rfl))
                    | (refine jT.loc ?_ (ih (k + 1) (some (.int (jI (cmA R (h1 396) k : Int)))) (some (.int (jI (h1 396 (k - 1))))) (Or.inr ⟨_, rfl⟩) (Or.inr ⟨_, rfl⟩) (by omega) (by omega) (by omega))
                       first
                         | (rw [show rpA R (h1 396) (k + 1) = h1 396 (k - 1) by rw [rs, if_pos (by omega)]; omega, show mxA R (h1 396) (k + 1) = (cmA R (h1 396) k : Int) by omega]; rfl)
                         | (rw [show rpA R (h1 396) (k + 1) = h1 396 (k - 1) by rw [rs, if_pos (by omega)]; omega, show mxA R (h1 396) (k + 1) = mxA R (h1 396) k by omega]; rfl)
                         | (rw [show rpA R (h1 396) (k + 1) = rpA R (h1 396) k by rw [rs, if_neg (by omega)], show mxA R (h1 396) (k + 1) = (cmA R (h1 396) k : Int) by omega]; rfl)
                         | (rw [show rpA R (h1 396) (k + 1) = rpA R (h1 396) k by rw [rs, if_neg (by omega)], show mxA R (h1 396) (k + 1) = mxA R (h1 396) k by omega]; rfl))
                · show jT _ _ 117 _ _ _ _
                  refine tl_iload rfl rfl ?_
                  show jT _ _ 119 _ _ _ _
                  refine tl_goto (tgt := 123) rfl rfl ?_
                  refine tl_istore_n rfl (Nat.le_of_ble_eq_true rfl) rfl ?_
                  refine tl_iinc rfl rfl rfl ?_
                  refine tl_goto (tgt := 28) rfl rfl ?_
                  show jT _ _ 28 _ _ _ _
                  -- leaf 8 at 28
                  first
                    | (exfalso; omega)
                    | (refine jT.loc ?_ (ih (k + 1) (some (.int (jI (cmA R (h1 396) k : Int)))) (some (.int (jI (h1 396 k)))) (Or.inr ⟨_, rfl⟩) (Or.inr ⟨_, rfl⟩) (by omega) (by omega) (by omega))
                       first
                         | (rw [show rpA R (h1 396) (k + 1) = h1 396 k by rw [rs, if_pos (by omega)]; omega, show mxA R (h1 396) (k + 1) = (cmA R (h1 396) k : Int) by omega]; rfl)
                         | (rw [show rpA R (h1 396) (k + 1) = h1 396 k by rw [rs, if_pos (by omega)]; omega, show mxA R (h1 396) (k + 1) = mxA R (h1 396) k by omega]; rfl)
                         | (rw [show rpA R (h1 396) (k + 1) = rpA R (h1 396) k by rw [rs, if_neg (by omega)], show mxA R (h1 396) (k + 1) = (cmA R (h1 396) k : Int) by omega]; rfl)
                         | (rw [show rpA R (h1 396) (k + 1) = rpA R (h1 396) k by rw [rs, if_neg (by omega)], show mxA R (h1 396) (k + 1) = mxA R (h1 396) k by omega]; rfl))
                    | (refine jT.loc ?_ (ih (k + 1) (some (.int (jI (cmA R (h1 396) k : Int)))) (some (.int (jI (h1 396 (k - 1))))) (Or.inr ⟨_, rfl⟩) (Or.inr ⟨_, rfl⟩) (by omega) (by omega) (by omega))
                       first
                         | (rw [show rpA R (h1 396) (k + 1) = h1 396 (k - 1) by rw [rs, if_pos (by omega)]; omega, show mxA R (h1 396) (k + 1) = (cmA R (h1 396) k : Int) by omega]; rfl)
                         | (rw [show rpA R (h1 396) (k + 1) = h1 396 (k - 1) by rw [rs, if_pos (by omega)]; omega, show mxA R (h1 396) (k + 1) = mxA R (h1 396) k by omega]; rfl)
                         | (rw [show rpA R (h1 396) (k + 1) = rpA R (h1 396) k by rw [rs, if_neg (by omega)], show mxA R (h1 396) (k + 1) = (cmA R (h1 396) k : Int) by omega]; rfl)
                         | (rw [show rpA R (h1 396) (k + 1) = rpA R (h1 396) k by rw [rs, if_neg (by omega)], show mxA R (h1 396) (k + 1) = mxA R (h1 396) k by omega]; rfl))
              · show jT _ _ 108 _ _ _ _
                refine tl_iload rfl rfl ?_
                refine tl_istore_n rfl (Nat.le_of_ble_eq_true rfl) rfl ?_
                refine tl_iload rfl rfl ?_
                show jT _ _ 113 _ _ _ _
                refine tl_iload_n rfl rfl ?_
                refine tl_icmp_le (tgt := 122) rfl rfl ⟨by omega, by omega⟩ ⟨by omega, by omega⟩ (fun c11 => ?_) (fun c11 => ?_)
                · skip
                  refine tl_iload_n rfl rfl ?_
                  refine tl_istore_n rfl (Nat.le_of_ble_eq_true rfl) rfl ?_
                  refine tl_iinc rfl rfl rfl ?_
                  refine tl_goto (tgt := 28) rfl rfl ?_
                  show jT _ _ 28 _ _ _ _
                  -- leaf 9 at 28
                  first
                    | (exfalso; omega)
                    | (refine jT.loc ?_ (ih (k + 1) (some (.int (jI (cmA R (h1 396) k : Int)))) (some (.int (jI (h1 396 k)))) (Or.inr ⟨_, rfl⟩) (Or.inr ⟨_, rfl⟩) (by omega) (by omega) (by omega))
                       first
                         | (rw [show rpA R (h1 396) (k + 1) = h1 396 k by rw [rs, if_pos (by omega)]; omega, show mxA R (h1 396) (k + 1) = (cmA R (h1 396) k : Int) by omega]; rfl)
                         | (rw [show rpA R (h1 396) (k + 1) = h1 396 k by rw [rs, if_pos (by omega)]; omega, show mxA R (h1 396) (k + 1) = mxA R (h1 396) k by omega]; rfl)
                         | (rw [show rpA R (h1 396) (k + 1) = rpA R (h1 396) k by rw [rs, if_neg (by omega)], show mxA R (h1 396) (k + 1) = (cmA R (h1 396) k : Int) by omega]; rfl)
                         | (rw [show rpA R (h1 396) (k + 1) = rpA R (h1 396) k by rw [rs, if_neg (by omega)], show mxA R (h1 396) (k + 1) = mxA R (h1 396) k by omega]; rfl))
                    | (refine jT.loc ?_ (ih (k + 1) (some (.int (jI (cmA R (h1 396) k : Int)))) (some (.int (jI (h1 396 (k - 1))))) (Or.inr ⟨_, rfl⟩) (Or.inr ⟨_, rfl⟩) (by omega) (by omega) (by omega))
                       first
                         | (rw [show rpA R (h1 396) (k + 1) = h1 396 (k - 1) by rw [rs, if_pos (by omega)]; omega, show mxA R (h1 396) (k + 1) = (cmA R (h1 396) k : Int) by omega]; rfl)
                         | (rw [show rpA R (h1 396) (k + 1) = h1 396 (k - 1) by rw [rs, if_pos (by omega)]; omega, show mxA R (h1 396) (k + 1) = mxA R (h1 396) k by omega]; rfl)
                         | (rw [show rpA R (h1 396) (k + 1) = rpA R (h1 396) k by rw [rs, if_neg (by omega)], show mxA R (h1 396) (k + 1) = (cmA R (h1 396) k : Int) by omega]; rfl)
                         | (rw [show rpA R (h1 396) (k + 1) = rpA R (h1 396) k by rw [rs, if_neg (by omega)], show mxA R (h1 396) (k + 1) = mxA R (h1 396) k by omega]; rfl))
                · show jT _ _ 117 _ _ _ _
                  refine tl_iload rfl rfl ?_
                  show jT _ _ 119 _ _ _ _
                  refine tl_goto (tgt := 123) rfl rfl ?_
                  refine tl_istore_n rfl (Nat.le_of_ble_eq_true rfl) rfl ?_
                  refine tl_iinc rfl rfl rfl ?_
                  refine tl_goto (tgt := 28) rfl rfl ?_
                  show jT _ _ 28 _ _ _ _
                  -- leaf 10 at 28
                  first
                    | (exfalso; omega)
                    | (refine jT.loc ?_ (ih (k + 1) (some (.int (jI (cmA R (h1 396) k : Int)))) (some (.int (jI (h1 396 k)))) (Or.inr ⟨_, rfl⟩) (Or.inr ⟨_, rfl⟩) (by omega) (by omega) (by omega))
                       first
                         | (rw [show rpA R (h1 396) (k + 1) = h1 396 k by rw [rs, if_pos (by omega)]; omega, show mxA R (h1 396) (k + 1) = (cmA R (h1 396) k : Int) by omega]; rfl)
                         | (rw [show rpA R (h1 396) (k + 1) = h1 396 k by rw [rs, if_pos (by omega)]; omega, show mxA R (h1 396) (k + 1) = mxA R (h1 396) k by omega]; rfl)
                         | (rw [show rpA R (h1 396) (k + 1) = rpA R (h1 396) k by rw [rs, if_neg (by omega)], show mxA R (h1 396) (k + 1) = (cmA R (h1 396) k : Int) by omega]; rfl)
                         | (rw [show rpA R (h1 396) (k + 1) = rpA R (h1 396) k by rw [rs, if_neg (by omega)], show mxA R (h1 396) (k + 1) = mxA R (h1 396) k by omega]; rfl))
                    | (refine jT.loc ?_ (ih (k + 1) (some (.int (jI (cmA R (h1 396) k : Int)))) (some (.int (jI (h1 396 (k - 1))))) (Or.inr ⟨_, rfl⟩) (Or.inr ⟨_, rfl⟩) (by omega) (by omega) (by omega))
                       first
                         | (rw [show rpA R (h1 396) (k + 1) = h1 396 (k - 1) by rw [rs, if_pos (by omega)]; omega, show mxA R (h1 396) (k + 1) = (cmA R (h1 396) k : Int) by omega]; rfl)
                         | (rw [show rpA R (h1 396) (k + 1) = h1 396 (k - 1) by rw [rs, if_pos (by omega)]; omega, show mxA R (h1 396) (k + 1) = mxA R (h1 396) k by omega]; rfl)
                         | (rw [show rpA R (h1 396) (k + 1) = rpA R (h1 396) k by rw [rs, if_neg (by omega)], show mxA R (h1 396) (k + 1) = (cmA R (h1 396) k : Int) by omega]; rfl)
                         | (rw [show rpA R (h1 396) (k + 1) = rpA R (h1 396) k by rw [rs, if_neg (by omega)], show mxA R (h1 396) (k + 1) = mxA R (h1 396) k by omega]; rfl))
      · show jT _ _ 64 _ _ _ _
        refine tl_aload_n rfl rfl ?_
        refine tl_getr (c := 12) (k9 := 11) (b := 396) rfl rfl rfl rfl ?_
        refine tl_iload rfl rfl ?_
        show jT _ _ 70 _ _ _ _
        refine tl_iald (n := 64) rfl rfl rfl (by omega) (by omega) ?_
        rw [Int.toNat_natCast]
        refine tl_goto (tgt := 83) rfl rfl ?_
        refine tl_istore rfl (Nat.le_of_ble_eq_true rfl) rfl ?_
        refine tl_iload rfl rfl ?_
        refine tl_iload_n rfl rfl ?_
        refine tl_icmp_gt (tgt := 108) rfl rfl ⟨by omega, by omega⟩ ⟨by omega, by omega⟩ (fun c12 => ?_) (fun c12 => ?_)
        · skip
          refine tl_iload rfl rfl ?_
          show jT _ _ 110 _ _ _ _
          refine tl_istore_n rfl (Nat.le_of_ble_eq_true rfl) rfl ?_
          refine tl_iload rfl rfl ?_
          refine tl_iload_n rfl rfl ?_
          refine tl_icmp_le (tgt := 122) rfl rfl ⟨by omega, by omega⟩ ⟨by omega, by omega⟩ (fun c13 => ?_) (fun c13 => ?_)
          · skip
            refine tl_iload_n rfl rfl ?_
            refine tl_istore_n rfl (Nat.le_of_ble_eq_true rfl) rfl ?_
            refine tl_iinc rfl rfl rfl ?_
            show jT _ _ 127 _ _ _ _
            refine tl_goto (tgt := 28) rfl rfl ?_
            show jT _ _ 28 _ _ _ _
            -- leaf 11 at 28
            first
              | (exfalso; omega)
              | (refine jT.loc ?_ (ih (k + 1) (some (.int (jI (cmA R (h1 396) k : Int)))) (some (.int (jI (h1 396 k)))) (Or.inr ⟨_, rfl⟩) (Or.inr ⟨_, rfl⟩) (by omega) (by omega) (by omega))
                 first
                   | (rw [show rpA R (h1 396) (k + 1) = h1 396 k by rw [rs, if_pos (by omega)]; omega, show mxA R (h1 396) (k + 1) = (cmA R (h1 396) k : Int) by omega]; rfl)
                   | (rw [show rpA R (h1 396) (k + 1) = h1 396 k by rw [rs, if_pos (by omega)]; omega, show mxA R (h1 396) (k + 1) = mxA R (h1 396) k by omega]; rfl)
                   | (rw [show rpA R (h1 396) (k + 1) = rpA R (h1 396) k by rw [rs, if_neg (by omega)], show mxA R (h1 396) (k + 1) = (cmA R (h1 396) k : Int) by omega]; rfl)
                   | (rw [show rpA R (h1 396) (k + 1) = rpA R (h1 396) k by rw [rs, if_neg (by omega)], show mxA R (h1 396) (k + 1) = mxA R (h1 396) k by omega]; rfl))
              | (refine jT.loc ?_ (ih (k + 1) (some (.int (jI (cmA R (h1 396) k : Int)))) (some (.int (jI (h1 396 (k - 1))))) (Or.inr ⟨_, rfl⟩) (Or.inr ⟨_, rfl⟩) (by omega) (by omega) (by omega))
                 first
                   | (rw [show rpA R (h1 396) (k + 1) = h1 396 (k - 1) by rw [rs, if_pos (by omega)]; omega, show mxA R (h1 396) (k + 1) = (cmA R (h1 396) k : Int) by omega]; rfl)
                   | (rw [show rpA R (h1 396) (k + 1) = h1 396 (k - 1) by rw [rs, if_pos (by omega)]; omega, show mxA R (h1 396) (k + 1) = mxA R (h1 396) k by omega]; rfl)
                   | (rw [show rpA R (h1 396) (k + 1) = rpA R (h1 396) k by rw [rs, if_neg (by omega)], show mxA R (h1 396) (k + 1) = (cmA R (h1 396) k : Int) by omega]; rfl)
                   | (rw [show rpA R (h1 396) (k + 1) = rpA R (h1 396) k by rw [rs, if_neg (by omega)], show mxA R (h1 396) (k + 1) = mxA R (h1 396) k by omega]; rfl))
          · show jT _ _ 117 _ _ _ _
            refine tl_iload rfl rfl ?_
            refine tl_goto (tgt := 123) rfl rfl ?_
            refine tl_istore_n rfl (Nat.le_of_ble_eq_true rfl) rfl ?_
            refine tl_iinc rfl rfl rfl ?_
            refine tl_goto (tgt := 28) rfl rfl ?_
            show jT _ _ 28 _ _ _ _
            -- leaf 12 at 28
            first
              | (exfalso; omega)
              | (refine jT.loc ?_ (ih (k + 1) (some (.int (jI (cmA R (h1 396) k : Int)))) (some (.int (jI (h1 396 k)))) (Or.inr ⟨_, rfl⟩) (Or.inr ⟨_, rfl⟩) (by omega) (by omega) (by omega))
                 first
                   | (rw [show rpA R (h1 396) (k + 1) = h1 396 k by rw [rs, if_pos (by omega)]; omega, show mxA R (h1 396) (k + 1) = (cmA R (h1 396) k : Int) by omega]; rfl)
                   | (rw [show rpA R (h1 396) (k + 1) = h1 396 k by rw [rs, if_pos (by omega)]; omega, show mxA R (h1 396) (k + 1) = mxA R (h1 396) k by omega]; rfl)
                   | (rw [show rpA R (h1 396) (k + 1) = rpA R (h1 396) k by rw [rs, if_neg (by omega)], show mxA R (h1 396) (k + 1) = (cmA R (h1 396) k : Int) by omega]; rfl)
                   | (rw [show rpA R (h1 396) (k + 1) = rpA R (h1 396) k by rw [rs, if_neg (by omega)], show mxA R (h1 396) (k + 1) = mxA R (h1 396) k by omega]; rfl))
              | (refine jT.loc ?_ (ih (k + 1) (some (.int (jI (cmA R (h1 396) k : Int)))) (some (.int (jI (h1 396 (k - 1))))) (Or.inr ⟨_, rfl⟩) (Or.inr ⟨_, rfl⟩) (by omega) (by omega) (by omega))
                 first
                   | (rw [show rpA R (h1 396) (k + 1) = h1 396 (k - 1) by rw [rs, if_pos (by omega)]; omega, show mxA R (h1 396) (k + 1) = (cmA R (h1 396) k : Int) by omega]; rfl)
                   | (rw [show rpA R (h1 396) (k + 1) = h1 396 (k - 1) by rw [rs, if_pos (by omega)]; omega, show mxA R (h1 396) (k + 1) = mxA R (h1 396) k by omega]; rfl)
                   | (rw [show rpA R (h1 396) (k + 1) = rpA R (h1 396) k by rw [rs, if_neg (by omega)], show mxA R (h1 396) (k + 1) = (cmA R (h1 396) k : Int) by omega]; rfl)
                   | (rw [show rpA R (h1 396) (k + 1) = rpA R (h1 396) k by rw [rs, if_neg (by omega)], show mxA R (h1 396) (k + 1) = mxA R (h1 396) k by omega]; rfl))
        · show jT _ _ 91 _ _ _ _
          refine tl_iload rfl rfl ?_
          show jT _ _ 93 _ _ _ _
          refine tl_iload_n rfl rfl ?_
          refine tl_icmp_ne (tgt := 111) rfl rfl ⟨by omega, by omega⟩ ⟨by omega, by omega⟩ (fun c14 => ?_) (fun c14 => ?_)
          · skip
            refine tl_iload rfl rfl ?_
            refine tl_iload_n rfl rfl ?_
            refine tl_icmp_le (tgt := 122) rfl rfl ⟨by omega, by omega⟩ ⟨by omega, by omega⟩ (fun c15 => ?_) (fun c15 => ?_)
            · skip
              refine tl_iload_n rfl rfl ?_
              refine tl_istore_n rfl (Nat.le_of_ble_eq_true rfl) rfl ?_
              show jT _ _ 124 _ _ _ _
              refine tl_iinc rfl rfl rfl ?_
              refine tl_goto (tgt := 28) rfl rfl ?_
              show jT _ _ 28 _ _ _ _
              -- leaf 13 at 28
              first
                | (exfalso; omega)
                | (refine jT.loc ?_ (ih (k + 1) (some (.int (jI (cmA R (h1 396) k : Int)))) (some (.int (jI (h1 396 k)))) (Or.inr ⟨_, rfl⟩) (Or.inr ⟨_, rfl⟩) (by omega) (by omega) (by omega))
                   first
                     | (rw [show rpA R (h1 396) (k + 1) = h1 396 k by rw [rs, if_pos (by omega)]; omega, show mxA R (h1 396) (k + 1) = (cmA R (h1 396) k : Int) by omega]; rfl)
                     | (rw [show rpA R (h1 396) (k + 1) = h1 396 k by rw [rs, if_pos (by omega)]; omega, show mxA R (h1 396) (k + 1) = mxA R (h1 396) k by omega]; rfl)
                     | (rw [show rpA R (h1 396) (k + 1) = rpA R (h1 396) k by rw [rs, if_neg (by omega)], show mxA R (h1 396) (k + 1) = (cmA R (h1 396) k : Int) by omega]; rfl)
                     | (rw [show rpA R (h1 396) (k + 1) = rpA R (h1 396) k by rw [rs, if_neg (by omega)], show mxA R (h1 396) (k + 1) = mxA R (h1 396) k by omega]; rfl))
                | (refine jT.loc ?_ (ih (k + 1) (some (.int (jI (cmA R (h1 396) k : Int)))) (some (.int (jI (h1 396 (k - 1))))) (Or.inr ⟨_, rfl⟩) (Or.inr ⟨_, rfl⟩) (by omega) (by omega) (by omega))
                   first
                     | (rw [show rpA R (h1 396) (k + 1) = h1 396 (k - 1) by rw [rs, if_pos (by omega)]; omega, show mxA R (h1 396) (k + 1) = (cmA R (h1 396) k : Int) by omega]; rfl)
                     | (rw [show rpA R (h1 396) (k + 1) = h1 396 (k - 1) by rw [rs, if_pos (by omega)]; omega, show mxA R (h1 396) (k + 1) = mxA R (h1 396) k by omega]; rfl)
                     | (rw [show rpA R (h1 396) (k + 1) = rpA R (h1 396) k by rw [rs, if_neg (by omega)], show mxA R (h1 396) (k + 1) = (cmA R (h1 396) k : Int) by omega]; rfl)
                     | (rw [show rpA R (h1 396) (k + 1) = rpA R (h1 396) k by rw [rs, if_neg (by omega)], show mxA R (h1 396) (k + 1) = mxA R (h1 396) k by omega]; rfl))
            · show jT _ _ 117 _ _ _ _
              refine tl_iload rfl rfl ?_
              refine tl_goto (tgt := 123) rfl rfl ?_
              refine tl_istore_n rfl (Nat.le_of_ble_eq_true rfl) rfl ?_
              refine tl_iinc rfl rfl rfl ?_
              refine tl_goto (tgt := 28) rfl rfl ?_
              show jT _ _ 28 _ _ _ _
              -- leaf 14 at 28
              first
                | (exfalso; omega)
                | (refine jT.loc ?_ (ih (k + 1) (some (.int (jI (cmA R (h1 396) k : Int)))) (some (.int (jI (h1 396 k)))) (Or.inr ⟨_, rfl⟩) (Or.inr ⟨_, rfl⟩) (by omega) (by omega) (by omega))
                   first
                     | (rw [show rpA R (h1 396) (k + 1) = h1 396 k by rw [rs, if_pos (by omega)]; omega, show mxA R (h1 396) (k + 1) = (cmA R (h1 396) k : Int) by omega]; rfl)
                     | (rw [show rpA R (h1 396) (k + 1) = h1 396 k by rw [rs, if_pos (by omega)]; omega, show mxA R (h1 396) (k + 1) = mxA R (h1 396) k by omega]; rfl)
                     | (rw [show rpA R (h1 396) (k + 1) = rpA R (h1 396) k by rw [rs, if_neg (by omega)], show mxA R (h1 396) (k + 1) = (cmA R (h1 396) k : Int) by omega]; rfl)
                     | (rw [show rpA R (h1 396) (k + 1) = rpA R (h1 396) k by rw [rs, if_neg (by omega)], show mxA R (h1 396) (k + 1) = mxA R (h1 396) k by omega]; rfl))
                | (refine jT.loc ?_ (ih (k + 1) (some (.int (jI (cmA R (h1 396) k : Int)))) (some (.int (jI (h1 396 (k - 1))))) (Or.inr ⟨_, rfl⟩) (Or.inr ⟨_, rfl⟩) (by omega) (by omega) (by omega))
                   first
                     | (rw [show rpA R (h1 396) (k + 1) = h1 396 (k - 1) by rw [rs, if_pos (by omega)]; omega, show mxA R (h1 396) (k + 1) = (cmA R (h1 396) k : Int) by omega]; rfl)
                     | (rw [show rpA R (h1 396) (k + 1) = h1 396 (k - 1) by rw [rs, if_pos (by omega)]; omega, show mxA R (h1 396) (k + 1) = mxA R (h1 396) k by omega]; rfl)
                     | (rw [show rpA R (h1 396) (k + 1) = rpA R (h1 396) k by rw [rs, if_neg (by omega)], show mxA R (h1 396) (k + 1) = (cmA R (h1 396) k : Int) by omega]; rfl)
                     | (rw [show rpA R (h1 396) (k + 1) = rpA R (h1 396) k by rw [rs, if_neg (by omega)], show mxA R (h1 396) (k + 1) = mxA R (h1 396) k by omega]; rfl))
          · show jT _ _ 97 _ _ _ _
            show jT _ _ 97 _ _ _ _
            refine tl_iload rfl rfl ?_
            refine tl_if_le (tgt := 111) rfl rfl ⟨by omega, by omega⟩ (fun c16 => ?_) (fun c16 => ?_)
            · skip
              refine tl_iload rfl rfl ?_
              refine tl_iload_n rfl rfl ?_
              refine tl_icmp_le (tgt := 122) rfl rfl ⟨by omega, by omega⟩ ⟨by omega, by omega⟩ (fun c17 => ?_) (fun c17 => ?_)
              · skip
                refine tl_iload_n rfl rfl ?_
                refine tl_istore_n rfl (Nat.le_of_ble_eq_true rfl) rfl ?_
                show jT _ _ 124 _ _ _ _
                refine tl_iinc rfl rfl rfl ?_
                refine tl_goto (tgt := 28) rfl rfl ?_
                show jT _ _ 28 _ _ _ _
                -- leaf 15 at 28
                first
                  | (exfalso; omega)
                  | (refine jT.loc ?_ (ih (k + 1) (some (.int (jI (cmA R (h1 396) k : Int)))) (some (.int (jI (h1 396 k)))) (Or.inr ⟨_, rfl⟩) (Or.inr ⟨_, rfl⟩) (by omega) (by omega) (by omega))
                     first
                       | (rw [show rpA R (h1 396) (k + 1) = h1 396 k by rw [rs, if_pos (by omega)]; omega, show mxA R (h1 396) (k + 1) = (cmA R (h1 396) k : Int) by omega]; rfl)
                       | (rw [show rpA R (h1 396) (k + 1) = h1 396 k by rw [rs, if_pos (by omega)]; omega, show mxA R (h1 396) (k + 1) = mxA R (h1 396) k by omega]; rfl)
                       | (rw [show rpA R (h1 396) (k + 1) = rpA R (h1 396) k by rw [rs, if_neg (by omega)], show mxA R (h1 396) (k + 1) = (cmA R (h1 396) k : Int) by omega]; rfl)
                       | (rw [show rpA R (h1 396) (k + 1) = rpA R (h1 396) k by rw [rs, if_neg (by omega)], show mxA R (h1 396) (k + 1) = mxA R (h1 396) k by omega]; rfl))
                  | (refine jT.loc ?_ (ih (k + 1) (some (.int (jI (cmA R (h1 396) k : Int)))) (some (.int (jI (h1 396 (k - 1))))) (Or.inr ⟨_, rfl⟩) (Or.inr ⟨_, rfl⟩) (by omega) (by omega) (by omega))
                     first
                       | (rw [show rpA R (h1 396) (k + 1) = h1 396 (k - 1) by rw [rs, if_pos (by omega)]; omega, show mxA R (h1 396) (k + 1) = (cmA R (h1 396) k : Int) by omega]; rfl)
                       | (rw [show rpA R (h1 396) (k + 1) = h1 396 (k - 1) by rw [rs, if_pos (by omega)]; omega, show mxA R (h1 396) (k + 1) = mxA R (h1 396) k by omega]; rfl)
                       | (rw [show rpA R (h1 396) (k + 1) = rpA R (h1 396) k by rw [rs, if_neg (by omega)], show mxA R (h1 396) (k + 1) = (cmA R (h1 396) k : Int) by omega]; rfl)
                       | (rw [show rpA R (h1 396) (k + 1) = rpA R (h1 396) k by rw [rs, if_neg (by omega)], show mxA R (h1 396) (k + 1) = mxA R (h1 396) k by omega]; rfl))
              · show jT _ _ 117 _ _ _ _
                refine tl_iload rfl rfl ?_
                refine tl_goto (tgt := 123) rfl rfl ?_
                refine tl_istore_n rfl (Nat.le_of_ble_eq_true rfl) rfl ?_
                refine tl_iinc rfl rfl rfl ?_
                refine tl_goto (tgt := 28) rfl rfl ?_
                show jT _ _ 28 _ _ _ _
                -- leaf 16 at 28
                first
                  | (exfalso; omega)
                  | (refine jT.loc ?_ (ih (k + 1) (some (.int (jI (cmA R (h1 396) k : Int)))) (some (.int (jI (h1 396 k)))) (Or.inr ⟨_, rfl⟩) (Or.inr ⟨_, rfl⟩) (by omega) (by omega) (by omega))
                     first
                       | (rw [show rpA R (h1 396) (k + 1) = h1 396 k by rw [rs, if_pos (by omega)]; omega, show mxA R (h1 396) (k + 1) = (cmA R (h1 396) k : Int) by omega]; rfl)
                       | (rw [show rpA R (h1 396) (k + 1) = h1 396 k by rw [rs, if_pos (by omega)]; omega, show mxA R (h1 396) (k + 1) = mxA R (h1 396) k by omega]; rfl)
                       | (rw [show rpA R (h1 396) (k + 1) = rpA R (h1 396) k by rw [rs, if_neg (by omega)], show mxA R (h1 396) (k + 1) = (cmA R (h1 396) k : Int) by omega]; rfl)
                       | (rw [show rpA R (h1 396) (k + 1) = rpA R (h1 396) k by rw [rs, if_neg (by omega)], show mxA R (h1 396) (k + 1) = mxA R (h1 396) k by omega]; rfl))
                  | (refine jT.loc ?_ (ih (k + 1) (some (.int (jI (cmA R (h1 396) k : Int)))) (some (.int (jI (h1 396 (k - 1))))) (Or.inr ⟨_, rfl⟩) (Or.inr ⟨_, rfl⟩) (by omega) (by omega) (by omega))
                     first
                       | (rw [show rpA R (h1 396) (k + 1) = h1 396 (k - 1) by rw [rs, if_pos (by omega)]; omega, show mxA R (h1 396) (k + 1) = (cmA R (h1 396) k : Int) by omega]; rfl)
                       | (rw [show rpA R (h1 396) (k + 1) = h1 396 (k - 1) by rw [rs, if_pos (by omega)]; omega, show mxA R (h1 396) (k + 1) = mxA R (h1 396) k by omega]; rfl)
                       | (rw [show rpA R (h1 396) (k + 1) = rpA R (h1 396) k by rw [rs, if_neg (by omega)], show mxA R (h1 396) (k + 1) = (cmA R (h1 396) k : Int) by omega]; rfl)
                       | (rw [show rpA R (h1 396) (k + 1) = rpA R (h1 396) k by rw [rs, if_neg (by omega)], show mxA R (h1 396) (k + 1) = mxA R (h1 396) k by omega]; rfl))
            · show jT _ _ 102 _ _ _ _
              show jT _ _ 102 _ _ _ _
              refine tl_iload rfl rfl ?_
              refine tl_iload_n rfl rfl ?_
              refine tl_icmp_ge (tgt := 111) rfl rfl ⟨by omega, by omega⟩ ⟨by omega, by omega⟩ (fun c18 => ?_) (fun c18 => ?_)
              · skip
                refine tl_iload rfl rfl ?_
                refine tl_iload_n rfl rfl ?_
                refine tl_icmp_le (tgt := 122) rfl rfl ⟨by omega, by omega⟩ ⟨by omega, by omega⟩ (fun c19 => ?_) (fun c19 => ?_)
                · skip
                  refine tl_iload_n rfl rfl ?_
                  show jT _ _ 123 _ _ _ _
                  refine tl_istore_n rfl (Nat.le_of_ble_eq_true rfl) rfl ?_
                  refine tl_iinc rfl rfl rfl ?_
                  refine tl_goto (tgt := 28) rfl rfl ?_
                  show jT _ _ 28 _ _ _ _
                  -- leaf 17 at 28
                  first
                    | (exfalso; omega)
                    | (refine jT.loc ?_ (ih (k + 1) (some (.int (jI (cmA R (h1 396) k : Int)))) (some (.int (jI (h1 396 k)))) (Or.inr ⟨_, rfl⟩) (Or.inr ⟨_, rfl⟩) (by omega) (by omega) (by omega))
                       first
                         | (rw [show rpA R (h1 396) (k + 1) = h1 396 k by rw [rs, if_pos (by omega)]; omega, show mxA R (h1 396) (k + 1) = (cmA R (h1 396) k : Int) by omega]; rfl)
                         | (rw [show rpA R (h1 396) (k + 1) = h1 396 k by rw [rs, if_pos (by omega)]; omega, show mxA R (h1 396) (k + 1) = mxA R (h1 396) k by omega]; rfl)
                         | (rw [show rpA R (h1 396) (k + 1) = rpA R (h1 396) k by rw [rs, if_neg (by omega)], show mxA R (h1 396) (k + 1) = (cmA R (h1 396) k : Int) by omega]; rfl)
                         | (rw [show rpA R (h1 396) (k + 1) = rpA R (h1 396) k by rw [rs, if_neg (by omega)], show mxA R (h1 396) (k + 1) = mxA R (h1 396) k by omega]; rfl))
                    | (refine jT.loc ?_ (ih (k + 1) (some (.int (jI (cmA R (h1 396) k : Int)))) (some (.int (jI (h1 396 (k - 1))))) (Or.inr ⟨_, rfl⟩) (Or.inr ⟨_, rfl⟩) (by omega) (by omega) (by omega))
                       first
                         | (rw [show rpA R (h1 396) (k + 1) = h1 396 (k - 1) by rw [rs, if_pos (by omega)]; omega, show mxA R (h1 396) (k + 1) = (cmA R (h1 396) k : Int) by omega]; rfl)
                         | (rw [show rpA R (h1 396) (k + 1) = h1 396 (k - 1) by rw [rs, if_pos (by omega)]; omega, show mxA R (h1 396) (k + 1) = mxA R (h1 396) k by omega]; rfl)
                         | (rw [show rpA R (h1 396) (k + 1) = rpA R (h1 396) k by rw [rs, if_neg (by omega)], show mxA R (h1 396) (k + 1) = (cmA R (h1 396) k : Int) by omega]; rfl)
                         | (rw [show rpA R (h1 396) (k + 1) = rpA R (h1 396) k by rw [rs, if_neg (by omega)], show mxA R (h1 396) (k + 1) = mxA R (h1 396) k by omega]; rfl))
                · show jT _ _ 117 _ _ _ _
                  refine tl_iload rfl rfl ?_
                  refine tl_goto (tgt := 123) rfl rfl ?_
                  refine tl_istore_n rfl (Nat.le_of_ble_eq_true rfl) rfl ?_
                  refine tl_iinc rfl rfl rfl ?_
                  show jT _ _ 127 _ _ _ _
                  refine tl_goto (tgt := 28) rfl rfl ?_
                  show jT _ _ 28 _ _ _ _
                  -- leaf 18 at 28
                  first
                    | (exfalso; omega)
                    | (refine jT.loc ?_ (ih (k + 1) (some (.int (jI (cmA R (h1 396) k : Int)))) (some (.int (jI (h1 396 k)))) (Or.inr ⟨_, rfl⟩) (Or.inr ⟨_, rfl⟩) (by omega) (by omega) (by omega))
                       first
                         | (rw [show rpA R (h1 396) (k + 1) = h1 396 k by rw [rs, if_pos (by omega)]; omega, show mxA R (h1 396) (k + 1) = (cmA R (h1 396) k : Int) by omega]; rfl)
                         | (rw [show rpA R (h1 396) (k + 1) = h1 396 k by rw [rs, if_pos (by omega)]; omega, show mxA R (h1 396) (k + 1) = mxA R (h1 396) k by omega]; rfl)
                         | (rw [show rpA R (h1 396) (k + 1) = rpA R (h1 396) k by rw [rs, if_neg (by omega)], show mxA R (h1 396) (k + 1) = (cmA R (h1 396) k : Int) by omega]; rfl)
                         | (rw [show rpA R (h1 396) (k + 1) = rpA R (h1 396) k by rw [rs, if_neg (by omega)], show mxA R (h1 396) (k + 1) = mxA R (h1 396) k by omega]; rfl))
                    | (refine jT.loc ?_ (ih (k + 1) (some (.int (jI (cmA R (h1 396) k : Int)))) (some (.int (jI (h1 396 (k - 1))))) (Or.inr ⟨_, rfl⟩) (Or.inr ⟨_, rfl⟩) (by omega) (by omega) (by omega))
                       first
                         | (rw [show rpA R (h1 396) (k + 1) = h1 396 (k - 1) by rw [rs, if_pos (by omega)]; omega, show mxA R (h1 396) (k + 1) = (cmA R (h1 396) k : Int) by omega]; rfl)
                         | (rw [show rpA R (h1 396) (k + 1) = h1 396 (k - 1) by rw [rs, if_pos (by omega)]; omega, show mxA R (h1 396) (k + 1) = mxA R (h1 396) k by omega]; rfl)
                         | (rw [show rpA R (h1 396) (k + 1) = rpA R (h1 396) k by rw [rs, if_neg (by omega)], show mxA R (h1 396) (k + 1) = (cmA R (h1 396) k : Int) by omega]; rfl)
                         | (rw [show rpA R (h1 396) (k + 1) = rpA R (h1 396) k by rw [rs, if_neg (by omega)], show mxA R (h1 396) (k + 1) = mxA R (h1 396) k by omega]; rfl))
              · show jT _ _ 108 _ _ _ _
                refine tl_iload rfl rfl ?_
                refine tl_istore_n rfl (Nat.le_of_ble_eq_true rfl) rfl ?_
                refine tl_iload rfl rfl ?_
                refine tl_iload_n rfl rfl ?_
                refine tl_icmp_le (tgt := 122) rfl rfl ⟨by omega, by omega⟩ ⟨by omega, by omega⟩ (fun c20 => ?_) (fun c20 => ?_)
                · skip
                  refine tl_iload_n rfl rfl ?_
                  show jT _ _ 123 _ _ _ _
                  refine tl_istore_n rfl (Nat.le_of_ble_eq_true rfl) rfl ?_
                  refine tl_iinc rfl rfl rfl ?_
                  refine tl_goto (tgt := 28) rfl rfl ?_
                  show jT _ _ 28 _ _ _ _
                  -- leaf 19 at 28
                  first
                    | (exfalso; omega)
                    | (refine jT.loc ?_ (ih (k + 1) (some (.int (jI (cmA R (h1 396) k : Int)))) (some (.int (jI (h1 396 k)))) (Or.inr ⟨_, rfl⟩) (Or.inr ⟨_, rfl⟩) (by omega) (by omega) (by omega))
                       first
                         | (rw [show rpA R (h1 396) (k + 1) = h1 396 k by rw [rs, if_pos (by omega)]; omega, show mxA R (h1 396) (k + 1) = (cmA R (h1 396) k : Int) by omega]; rfl)
                         | (rw [show rpA R (h1 396) (k + 1) = h1 396 k by rw [rs, if_pos (by omega)]; omega, show mxA R (h1 396) (k + 1) = mxA R (h1 396) k by omega]; rfl)
                         | (rw [show rpA R (h1 396) (k + 1) = rpA R (h1 396) k by rw [rs, if_neg (by omega)], show mxA R (h1 396) (k + 1) = (cmA R (h1 396) k : Int) by omega]; rfl)
                         | (rw [show rpA R (h1 396) (k + 1) = rpA R (h1 396) k by rw [rs, if_neg (by omega)], show mxA R (h1 396) (k + 1) = mxA R (h1 396) k by omega]; rfl))
                    | (refine jT.loc ?_ (ih (k + 1) (some (.int (jI (cmA R (h1 396) k : Int)))) (some (.int (jI (h1 396 (k - 1))))) (Or.inr ⟨_, rfl⟩) (Or.inr ⟨_, rfl⟩) (by omega) (by omega) (by omega))
                       first
                         | (rw [show rpA R (h1 396) (k + 1) = h1 396 (k - 1) by rw [rs, if_pos (by omega)]; omega, show mxA R (h1 396) (k + 1) = (cmA R (h1 396) k : Int) by omega]; rfl)
                         | (rw [show rpA R (h1 396) (k + 1) = h1 396 (k - 1) by rw [rs, if_pos (by omega)]; omega, show mxA R (h1 396) (k + 1) = mxA R (h1 396) k by omega]; rfl)
                         | (rw [show rpA R (h1 396) (k + 1) = rpA R (h1 396) k by rw [rs, if_neg (by omega)], show mxA R (h1 396) (k + 1) = (cmA R (h1 396) k : Int) by omega]; rfl)
                         | (rw [show rpA R (h1 396) (k + 1) = rpA R (h1 396) k by rw [rs, if_neg (by omega)], show mxA R (h1 396) (k + 1) = mxA R (h1 396) k by omega]; rfl))
                · show jT _ _ 117 _ _ _ _
                  refine tl_iload rfl rfl ?_
                  refine tl_goto (tgt := 123) rfl rfl ?_
                  refine tl_istore_n rfl (Nat.le_of_ble_eq_true rfl) rfl ?_
                  refine tl_iinc rfl rfl rfl ?_
                  show jT _ _ 127 _ _ _ _
                  refine tl_goto (tgt := 28) rfl rfl ?_
                  show jT _ _ 28 _ _ _ _
                  -- leaf 20 at 28
                  first
                    | (exfalso; omega)
                    | (refine jT.loc ?_ (ih (k + 1) (some (.int (jI (cmA R (h1 396) k : Int)))) (some (.int (jI (h1 396 k)))) (Or.inr ⟨_, rfl⟩) (Or.inr ⟨_, rfl⟩) (by omega) (by omega) (by omega))
                       first
                         | (rw [show rpA R (h1 396) (k + 1) = h1 396 k by rw [rs, if_pos (by omega)]; omega, show mxA R (h1 396) (k + 1) = (cmA R (h1 396) k : Int) by omega]; rfl)
                         | (rw [show rpA R (h1 396) (k + 1) = h1 396 k by rw [rs, if_pos (by omega)]; omega, show mxA R (h1 396) (k + 1) = mxA R (h1 396) k by omega]; rfl)
                         | (rw [show rpA R (h1 396) (k + 1) = rpA R (h1 396) k by rw [rs, if_neg (by omega)], show mxA R (h1 396) (k + 1) = (cmA R (h1 396) k : Int) by omega]; rfl)
                         | (rw [show rpA R (h1 396) (k + 1) = rpA R (h1 396) k by rw [rs, if_neg (by omega)], show mxA R (h1 396) (k + 1) = mxA R (h1 396) k by omega]; rfl))
                    | (refine jT.loc ?_ (ih (k + 1) (some (.int (jI (cmA R (h1 396) k : Int)))) (some (.int (jI (h1 396 (k - 1))))) (Or.inr ⟨_, rfl⟩) (Or.inr ⟨_, rfl⟩) (by omega) (by omega) (by omega))
                       first
                         | (rw [show rpA R (h1 396) (k + 1) = h1 396 (k - 1) by rw [rs, if_pos (by omega)]; omega, show mxA R (h1 396) (k + 1) = (cmA R (h1 396) k : Int) by omega]; rfl)
                         | (rw [show rpA R (h1 396) (k + 1) = h1 396 (k - 1) by rw [rs, if_pos (by omega)]; omega, show mxA R (h1 396) (k + 1) = mxA R (h1 396) k by omega]; rfl)
                         | (rw [show rpA R (h1 396) (k + 1) = rpA R (h1 396) k by rw [rs, if_neg (by omega)], show mxA R (h1 396) (k + 1) = (cmA R (h1 396) k : Int) by omega]; rfl)
                         | (rw [show rpA R (h1 396) (k + 1) = rpA R (h1 396) k by rw [rs, if_neg (by omega)], show mxA R (h1 396) (k + 1) = mxA R (h1 396) k by omega]; rfl))
set_option maxRecDepth 20000 in
set_option maxHeartbeats 1000000 in
theorem r_repeated (l : Launch) (g h : jH) (t x : Int) (hI0 : IC g h t) (hx : jr x) : cI l 240 [.ref 388, .int (jI x)] h (PRF (Drepeated (Tz h) x)) := by
  have x1 := hx.1
  have x2 := hx.2
  refine cI.of rfl rfl ?_
  refine tl_aload_n rfl rfl ?_
  refine tl_iconst rfl ?_
  refine tl_puti (c := 12) (k9 := 0) rfl rfl rfl rfl ?_
  have hI := hI0.z
  change jT _ _ _ _ _ (Tz h) _
  generalize Tz h = m at hI ⊢
  have ok := hI.ok
  refine tl_iload_n rfl rfl ?_
  refine tl_i2l rfl ⟨by omega, by omega⟩ ?_
  refine tl_lconst (z := 0) rfl rfl ?_
  show jT _ _ 8 _ _ _ _
  refine tl_lconst (z := 1) rfl rfl ?_
  refine tl_s3i (c_in l _ _ _ _ ⟨by omega, by omega⟩ ⟨by omega, by omega⟩ ⟨by omega, by omega⟩) rfl rfl rfl (Nat.le_of_ble_eq_true rfl) (fun z2 h2 p2 => ?_)
  obtain ⟨q2, p2⟩ := p2
  have q2 := q2.symm
  subst q2
  have b2 : z2 = 0 ∨ z2 = 1 := by rw [p2]; split <;> omega
  refine tl_if_ne (tgt := 17) rfl rfl ⟨by omega, by omega⟩ (fun c1 => ?_) (fun c1 => ?_)
  · skip
    refine tl_aload_n rfl rfl ?_
    refine tl_v0v (c9 := 12) (r_layTails l m ok) rfl rfl rfl rfl rfl (Nat.le_of_ble_eq_true rfl) (fun h1 p1 => ?_)
    obtain ⟨⟨n, m1, hT, hL⟩, fr, fr2⟩ := p1
    have k2 := ok.2.1
    have hn := hT.cnt ok
    obtain ⟨en, ea⟩ := hT.srt ok
    have rf : RF m h1 := RF.of (fun x hx => fr x (by omega) (by omega) (by omega)) (fun q hq => fr2 q (by omega))
    have hT1 : TSr (m 390) h1 n := ⟨fr 390 (by decide) (by decide) (by decide), m1, hT, hL⟩
    refine tl_iconst rfl ?_
    refine tl_istore_n rfl (Nat.le_of_ble_eq_true rfl) rfl ?_
    show jT _ _ 23 _ _ _ _
    refine tl_iconst rfl ?_
    refine tl_istore_n rfl (Nat.le_of_ble_eq_true rfl) rfl ?_
    refine tl_iconst rfl ?_
    refine tl_istore rfl (Nat.le_of_ble_eq_true rfl) rfl ?_
    show jT _ _ 28 _ _ _ _
    -- leaf 0 at 28
    refine jT.loc ?_ (r_rep_lp l h1 (m 390) ok n hT1 x _ (fun k y y2 => ?_) _ 1 none none (Or.inl rfl) (Or.inl rfl) (Nat.lt_succ_self _) (by omega) (by omega))
    · have e0 : mxA (m 390) (h1 396) 1 = 0 := by rw [mxA, mxA, cmA, if_pos rfl]; rfl
      rw [rpA, if_pos e0, e0]
      rfl
    · skip
      refine tl_iload_n rfl rfl ?_
      refine tl_if_ne (tgt := 138) rfl rfl ⟨by omega, by omega⟩ (fun c1 => ?_) (fun c1 => ?_)
      · skip
        refine tl_iload_n rfl rfl ?_
        refine tl_iret rfl ?_
        -- leaf 0 at 139
        refine ⟨_, rfl, ?_⟩
        rw [Drepeated, Ar, en, mxA_congr ea n (by omega)]
        first | rw [if_pos (by omega)] | (rw [if_neg (by omega), if_pos (by omega), rpA, mxA_congr ea n (by omega), lwA_congr ea n (by omega), ← rpA])
        exact PRF.rd rf
      · show jT _ _ 134 _ _ _ _
        refine tl_iload_n rfl rfl ?_
        refine tl_goto (tgt := 139) rfl rfl ?_
        show jT _ _ 139 _ _ _ _
        refine tl_iret rfl ?_
        -- leaf 1 at 139
        refine ⟨_, rfl, ?_⟩
        rw [Drepeated, Ar, en, mxA_congr ea n (by omega)]
        first | rw [if_pos (by omega)] | (rw [if_neg (by omega), if_pos (by omega), rpA, mxA_congr ea n (by omega), lwA_congr ea n (by omega), ← rpA])
        exact PRF.rd rf
  · show jT _ _ 15 _ _ _ _
    refine tl_iconst rfl ?_
    refine tl_iret rfl ?_
    -- leaf 1 at 16
    refine ⟨_, rfl, ?_⟩
    rw [Drepeated, Ar, if_neg (by omega), if_neg (by omega)]
    exact PRF.rd RF.rfl'
