/-! the tape: feed, end -/
def Tadd (s : jH) (x : Int) : jH := hs (hs s 393 (s 388 8).toNat x) 388 8 (s 388 8 + 1)
theorem Tadd_n {s : jH} {x : Int} : Tadd s x 388 8 = s 388 8 + 1 := hs_s
def Tfour (s : jH) (v : Int) : jH := Tadd (Tadd (Tadd (Tadd s (v / 16777216 % 256)) (v / 65536 % 256)) (v / 256 % 256)) (v / 1 % 256)
theorem Tfour_n {s : jH} {x : Int} : Tfour s x 388 8 = s 388 8 + 4 := by rw [Tfour, Tadd_n, Tadd_n, Tadd_n, Tadd_n]; omega
def Tfeed (s : jH) (a b c d e : Int) : jH := if s 388 8 ≤ 380 then Tfour (Tfour (Tfour (Tfour (Tfour s a) b) c) d) e else s
def Afeed (s : jH) : Int := if s 388 8 ≤ 380 then s 388 8 + 20 else -1
def Tend (s : jH) (n : Int) : jH := if 0 ≤ n ∧ n ≤ s 388 8 then hs s 388 8 n else s
def Aend (s : jH) (n : Int) : Int := if 0 ≤ n ∧ n ≤ s 388 8 then n else -1
theorem Ag.add {s s' : jH} (h : Ag s s') (x : Int) : Ag (Tadd s x) (Tadd s' x) := by
  unfold Tadd
  rw [h 388 (by decide)]
  exact (h.s1 rfl).s1 rfl
theorem Ag.four {s s' : jH} (h : Ag s s') (x : Int) : Ag (Tfour s x) (Tfour s' x) := (((h.add _).add _).add _).add _
theorem Ag.feed {s s' : jH} (h : Ag s s') (a b c d e : Int) : Ag (Tfeed s a b c d e) (Tfeed s' a b c d e) := by
  unfold Tfeed
  rw [h 388 (by decide)]
  split
  · exact ((((h.four _).four _).four _).four _).four _
  · exact h
theorem Ag.tend {s s' : jH} (h : Ag s s') (n : Int) : Ag (Tend s n) (Tend s' n) := by
  unfold Tend
  rw [h 388 (by decide)]
  split
  · exact h.s1 rfl
  · exact h
theorem Ag.terms {s s' : jH} (h : Ag s s') (a v : Int) : Ag (Tterms s a v) (Tterms s' a v) := by
  unfold Tterms
  rw [h 390 (by decide)]
  split
  · exact (h.s1 rfl).tell rfl
  · exact h.tell rfl
theorem IC.add {h s : jH} {t x : Int} (hI : IC h s t) (hn : s 388 8 < 400) (hx : byt x) : IC (hs (hs h 310 (h 309 1).toNat x) 309 1 (h 309 1 + 1)) (Tadd s x) t := by
  obtain ⟨t1, t2, t3, t4⟩ := hI.2.2.1
  have ea : ∀ y, y ≠ 309 → y ≠ 310 → hs (hs h 310 (h 309 1).toNat x) 309 1 (h 309 1 + 1) y = h y := fun y y1 y2 => by rw [hs_O y1, hs_O y2]
  have eb : ∀ y, y ≠ 388 → y ≠ 393 → Tadd s x y = s y := fun y y1 y2 => by rw [Tadd, hs_O y1, hs_O y2]
  refine hI.row ?_ ?_ (ea _ (by decide) (by decide)) (fun y _ _ => ea y (by omega) (by omega)) (ea _ (by decide) (by decide)) (ea _ (by decide) (by decide)) (ea _ (by decide) (by decide)) (ea _ (by decide) (by decide)) (fun q _ q8 => ?_) (eb _ (by decide) (by decide)) (fun k _ => by rw [eb _ (by decide) (by decide)]) (eb _ (by decide) (by decide)) (eb _ (by decide) (by decide))
  · rw [eb _ (by decide) (by decide)]
    exact hI.1.keep (fun y _ _ => ea y (by omega) (by omega))
  · refine ⟨?_, by rw [Tadd_n]; omega, by rw [Tadd_n]; omega, fun i hi => ?_⟩
    · rw [hs_s, Tadd_n, t1]
    · rw [Tadd_n] at hi
      rw [hs_o (by decide), Tadd, hs_o (show (393 : Nat) ≠ 388 by decide), t1]
      by_cases e : i = (s 388 8).toNat
      · subst e
        rw [hs_s, hs_s]
        exact ⟨rfl, hx⟩
      · rw [hs_k e, hs_k e]
        exact t4 i (by omega)
  · rw [Tadd, hs_k q8, hs_o (by decide)]
theorem IC.cutTape {h s : jH} {t n : Int} (hI : IC h s t) (n0 : 0 ≤ n) (n1 : n ≤ s 388 8) : IC (hs h 309 1 n) (hs s 388 8 n) t := by
  obtain ⟨t1, t2, t3, t4⟩ := hI.2.2.1
  have ea : ∀ y, y ≠ 309 → hs h 309 1 n y = h y := fun y y1 => hs_O y1
  have eb : ∀ y, y ≠ 388 → hs s 388 8 n y = s y := fun y y1 => hs_O y1
  refine hI.row ?_ ?_ (ea _ (by decide)) (fun y _ _ => ea y (by omega)) (ea _ (by decide)) (ea _ (by decide)) (ea _ (by decide)) (ea _ (by decide)) (fun q _ q8 => hs_k q8) (eb _ (by decide)) (fun k _ => by rw [eb _ (by decide)]) (eb _ (by decide)) (eb _ (by decide))
  · rw [eb _ (by decide)]
    exact hI.1.keep (fun y _ _ => ea y (by omega))
  · refine ⟨by rw [hs_s, hs_s], by rw [hs_s]; omega, by rw [hs_s]; omega, fun i hi => ?_⟩
    rw [hs_s] at hi
    rw [hs_o (by decide), hs_o (by decide)]
    exact t4 i (by omega)
theorem k_add (l : Launch) (h s : jH) (t x : Int) (hI : IC h s t) (hn : s 388 8 < 400) (hx : byt x) : cV l 100 [.ref 309, .int (jI x)] h (fun h' => IC h' (Tadd s x) t ∧ ∀ y, y ≠ 309 → y ≠ 310 → h' y = h y) := by
  have tp := hI.tape
  refine (c_Row_add l RT_S h x (by omega) (by omega)).mono (fun h' e => ?_)
  rw [if_pos (by omega)] at e
  subst e
  exact ⟨hI.add hn hx, fun y y1 y2 => by rw [hs_O y1, hs_O y2]⟩
set_option maxRecDepth 20000 in
set_option maxHeartbeats 1000000 in
theorem k_feedFour (l : Launch) (h s : jH) (t v : Int) (hI : IC h s t) (hv : jr v) (hn : s 388 8 ≤ 396) : cV l 139 [.ref 0, .int (jI v)] h (fun h' => IC h' (Tfour s v) t ∧ ∀ y, y ≠ 309 → y ≠ 310 → h' y = h y) := by
  refine cV.of rfl rfl ?_
  refine tl_bipush rfl rfl ?_
  refine tl_istore_n rfl (Nat.le_of_ble_eq_true rfl) rfl ?_
  show jT _ _ 3 _ _ _ _
  -- leaf 0 at 3
  refine tl_iload_n rfl rfl ?_
  refine tl_if_lt (tgt := 27) rfl rfl ⟨by omega, by omega⟩ (fun c1 => ?_) (fun c1 => ?_)
  · skip
    refine tl_ret rfl ?_
    -- leaf 0 at 27
    omega
  · show jT _ _ 7 _ _ _ _
    refine tl_aload_n rfl rfl ?_
    refine tl_getr (c := 11) (k9 := 5) (b := 309) rfl rfl rfl rfl ?_
    refine tl_iload_n rfl rfl ?_
    show jT _ _ 12 _ _ _ _
    refine tl_iload_n rfl rfl ?_
    refine tl_ishr rfl (jI_shr24 hv) ?_
    refine tl_sipush rfl rfl ?_
    refine tl_iand rfl (jI_and255 _) ?_
    refine tl_v1v (c9 := 8) (k_add l _ _ t _ hI (by omega) ⟨by omega, by omega⟩) rfl rfl rfl rfl rfl (Nat.le_of_ble_eq_true rfl) (fun h1 p1 => ?_)
    obtain ⟨i1, f1⟩ := p1
    have e1 := Tadd_n (s := s) (x := v / 16777216 % 256)
    refine tl_iinc rfl rfl rfl ?_
    refine tl_goto (tgt := 3) rfl rfl ?_
    show jT _ _ 3 _ _ _ _
    -- leaf 1 at 3
    refine tl_iload_n rfl rfl ?_
    refine tl_if_lt (tgt := 27) rfl rfl ⟨by omega, by omega⟩ (fun c1 => ?_) (fun c1 => ?_)
    · skip
      refine tl_ret rfl ?_
      -- leaf 0 at 27
      omega
    · show jT _ _ 7 _ _ _ _
      refine tl_aload_n rfl rfl ?_
      refine tl_getr (c := 11) (k9 := 5) (b := 309) rfl rfl rfl rfl ?_
      refine tl_iload_n rfl rfl ?_
      show jT _ _ 12 _ _ _ _
      refine tl_iload_n rfl rfl ?_
      refine tl_ishr rfl (jI_shr16 hv) ?_
      refine tl_sipush rfl rfl ?_
      refine tl_iand rfl (jI_and255 _) ?_
      refine tl_v1v (c9 := 8) (k_add l _ _ t _ i1 (by omega) ⟨by omega, by omega⟩) rfl rfl rfl rfl rfl (Nat.le_of_ble_eq_true rfl) (fun h2 p2 => ?_)
      obtain ⟨i2, f2⟩ := p2
      have e2 := Tadd_n (s := Tadd s (v / 16777216 % 256)) (x := v / 65536 % 256)
      refine tl_iinc rfl rfl rfl ?_
      refine tl_goto (tgt := 3) rfl rfl ?_
      show jT _ _ 3 _ _ _ _
      -- leaf 1 at 3
      refine tl_iload_n rfl rfl ?_
      refine tl_if_lt (tgt := 27) rfl rfl ⟨by omega, by omega⟩ (fun c1 => ?_) (fun c1 => ?_)
      · skip
        refine tl_ret rfl ?_
        -- leaf 0 at 27
        omega
      · show jT _ _ 7 _ _ _ _
        refine tl_aload_n rfl rfl ?_
        refine tl_getr (c := 11) (k9 := 5) (b := 309) rfl rfl rfl rfl ?_
        refine tl_iload_n rfl rfl ?_
        show jT _ _ 12 _ _ _ _
        refine tl_iload_n rfl rfl ?_
        refine tl_ishr rfl (jI_shr8 hv) ?_
        refine tl_sipush rfl rfl ?_
        refine tl_iand rfl (jI_and255 _) ?_
        refine tl_v1v (c9 := 8) (k_add l _ _ t _ i2 (by omega) ⟨by omega, by omega⟩) rfl rfl rfl rfl rfl (Nat.le_of_ble_eq_true rfl) (fun h3 p3 => ?_)
        obtain ⟨i3, f3⟩ := p3
        have e3 := Tadd_n (s := Tadd (Tadd s (v / 16777216 % 256)) (v / 65536 % 256)) (x := v / 256 % 256)
        refine tl_iinc rfl rfl rfl ?_
        refine tl_goto (tgt := 3) rfl rfl ?_
        show jT _ _ 3 _ _ _ _
        -- leaf 1 at 3
        refine tl_iload_n rfl rfl ?_
        refine tl_if_lt (tgt := 27) rfl rfl ⟨by omega, by omega⟩ (fun c1 => ?_) (fun c1 => ?_)
        · skip
          refine tl_ret rfl ?_
          -- leaf 0 at 27
          omega
        · show jT _ _ 7 _ _ _ _
          refine tl_aload_n rfl rfl ?_
          refine tl_getr (c := 11) (k9 := 5) (b := 309) rfl rfl rfl rfl ?_
          refine tl_iload_n rfl rfl ?_
          show jT _ _ 12 _ _ _ _
          refine tl_iload_n rfl rfl ?_
          refine tl_ishr rfl (jI_shr0 hv) ?_
          refine tl_sipush rfl rfl ?_
          refine tl_iand rfl (jI_and255 _) ?_
          refine tl_v1v (c9 := 8) (k_add l _ _ t _ i3 (by omega) ⟨by omega, by omega⟩) rfl rfl rfl rfl rfl (Nat.le_of_ble_eq_true rfl) (fun h4 p4 => ?_)
          obtain ⟨i4, f4⟩ := p4
          have e4 := Tadd_n (s := Tadd (Tadd (Tadd s (v / 16777216 % 256)) (v / 65536 % 256)) (v / 256 % 256)) (x := v / 1 % 256)
          refine tl_iinc rfl rfl rfl ?_
          refine tl_goto (tgt := 3) rfl rfl ?_
          show jT _ _ 3 _ _ _ _
          -- leaf 1 at 3
          refine tl_iload_n rfl rfl ?_
          refine tl_if_lt (tgt := 27) rfl rfl ⟨by omega, by omega⟩ (fun c1 => ?_) (fun c1 => ?_)
          · skip
            refine tl_ret rfl ?_
            -- leaf 0 at 27
            exact ⟨rfl, i4, fun y y1 y2 => by rw [f4 y y1 y2, f3 y y1 y2, f2 y y1 y2, f1 y y1 y2]⟩
          · show jT _ _ 7 _ _ _ _
            refine tl_aload_n rfl rfl ?_
            refine tl_getr (c := 11) (k9 := 5) (b := 309) rfl rfl rfl rfl ?_
            refine tl_iload_n rfl rfl ?_
            show jT _ _ 12 _ _ _ _
            refine tl_iload_n rfl rfl ?_
            refine tl_ishr rfl (rfl) ?_
            refine tl_sipush rfl rfl ?_
            refine tl_iand rfl (jI_and255 _) ?_
            refine tl_v1v (c9 := 8) (k_add l _ _ t _ i4 (by omega) ⟨by omega, by omega⟩) rfl rfl rfl rfl rfl (Nat.le_of_ble_eq_true rfl) (fun h9 p9 => ?_)
            obtain ⟨i9, f9⟩ := p9
            refine tl_iinc rfl rfl rfl ?_
            refine tl_goto (tgt := 3) rfl rfl ?_
            show jT _ _ 3 _ _ _ _
            -- leaf 1 at 3
            omega
set_option maxRecDepth 20000 in
set_option maxHeartbeats 1000000 in
theorem r_four (l : Launch) (h : jH) (v : Int) (hv : jr v) (n0 : 0 ≤ h 388 8) (hn : h 388 8 ≤ 396) : cV l 217 [.ref 388, .int (jI v)] h (fun h' => h' = Tfour h v) := by
  refine cV.of rfl rfl ?_
  refine tl_bipush rfl rfl ?_
  refine tl_istore_n rfl (Nat.le_of_ble_eq_true rfl) rfl ?_
  show jT _ _ 3 _ _ _ _
  -- leaf 0 at 3
  refine tl_iload_n rfl rfl ?_
  refine tl_if_lt (tgt := 39) rfl rfl ⟨by omega, by omega⟩ (fun c1 => ?_) (fun c1 => ?_)
  · skip
    refine tl_ret rfl ?_
    -- leaf 0 at 39
    omega
  · show jT _ _ 7 _ _ _ _
    refine tl_aload_n rfl rfl ?_
    refine tl_getr (c := 12) (k9 := 7) (b := 393) rfl rfl rfl rfl ?_
    refine tl_aload_n rfl rfl ?_
    show jT _ _ 12 _ _ _ _
    refine tl_geti (c := 12) (k9 := 8) rfl rfl rfl ?_
    refine tl_iload_n rfl rfl ?_
    refine tl_iload_n rfl rfl ?_
    refine tl_ishr rfl (jI_shr24 hv) ?_
    refine tl_sipush rfl rfl ?_
    refine tl_iand rfl (jI_and255 _) ?_
    refine tl_iast (n := 400) rfl rfl rfl (by omega) (by omega) ?_
    show jT _ _ 23 _ _ _ _
    refine tl_aload_n rfl rfl ?_
    refine tl_dup rfl rfl ?_
    refine tl_geti (c := 12) (k9 := 8) rfl rfl rfl ?_
    rw [hs_o (show (388 : Nat) ≠ 393 by decide)]
    refine tl_iconst rfl ?_
    refine tl_iadd rfl ?_
    refine tl_puti (c := 12) (k9 := 8) rfl rfl rfl rfl ?_
    change jT _ _ _ _ _ (Tadd h (v / 16777216 % 256)) _
    have e1 := Tadd_n (s := h) (x := v / 16777216 % 256)
    generalize g1 : Tadd h (v / 16777216 % 256) = m1 at e1 ⊢
    refine tl_iinc rfl rfl rfl ?_
    show jT _ _ 36 _ _ _ _
    refine tl_goto (tgt := 3) rfl rfl ?_
    show jT _ _ 3 _ _ _ _
    -- leaf 1 at 3
    refine tl_iload_n rfl rfl ?_
    refine tl_if_lt (tgt := 39) rfl rfl ⟨by omega, by omega⟩ (fun c1 => ?_) (fun c1 => ?_)
    · skip
      refine tl_ret rfl ?_
      -- leaf 0 at 39
      omega
    · show jT _ _ 7 _ _ _ _
      refine tl_aload_n rfl rfl ?_
      refine tl_getr (c := 12) (k9 := 7) (b := 393) rfl rfl rfl rfl ?_
      refine tl_aload_n rfl rfl ?_
      show jT _ _ 12 _ _ _ _
      refine tl_geti (c := 12) (k9 := 8) rfl rfl rfl ?_
      refine tl_iload_n rfl rfl ?_
      refine tl_iload_n rfl rfl ?_
      refine tl_ishr rfl (jI_shr16 hv) ?_
      refine tl_sipush rfl rfl ?_
      refine tl_iand rfl (jI_and255 _) ?_
      refine tl_iast (n := 400) rfl rfl rfl (by omega) (by omega) ?_
      show jT _ _ 23 _ _ _ _
      refine tl_aload_n rfl rfl ?_
      refine tl_dup rfl rfl ?_
      refine tl_geti (c := 12) (k9 := 8) rfl rfl rfl ?_
      rw [hs_o (show (388 : Nat) ≠ 393 by decide)]
      refine tl_iconst rfl ?_
      refine tl_iadd rfl ?_
      refine tl_puti (c := 12) (k9 := 8) rfl rfl rfl rfl ?_
      change jT _ _ _ _ _ (Tadd m1 (v / 65536 % 256)) _
      have e2 := Tadd_n (s := m1) (x := v / 65536 % 256)
      generalize g2 : Tadd m1 (v / 65536 % 256) = m2 at e2 ⊢
      refine tl_iinc rfl rfl rfl ?_
      show jT _ _ 36 _ _ _ _
      refine tl_goto (tgt := 3) rfl rfl ?_
      show jT _ _ 3 _ _ _ _
      -- leaf 1 at 3
      refine tl_iload_n rfl rfl ?_
      refine tl_if_lt (tgt := 39) rfl rfl ⟨by omega, by omega⟩ (fun c1 => ?_) (fun c1 => ?_)
      · skip
        refine tl_ret rfl ?_
        -- leaf 0 at 39
        omega
      · show jT _ _ 7 _ _ _ _
        refine tl_aload_n rfl rfl ?_
        refine tl_getr (c := 12) (k9 := 7) (b := 393) rfl rfl rfl rfl ?_
        refine tl_aload_n rfl rfl ?_
        show jT _ _ 12 _ _ _ _
        refine tl_geti (c := 12) (k9 := 8) rfl rfl rfl ?_
        refine tl_iload_n rfl rfl ?_
        refine tl_iload_n rfl rfl ?_
        refine tl_ishr rfl (jI_shr8 hv) ?_
        refine tl_sipush rfl rfl ?_
        refine tl_iand rfl (jI_and255 _) ?_
        refine tl_iast (n := 400) rfl rfl rfl (by omega) (by omega) ?_
        show jT _ _ 23 _ _ _ _
        refine tl_aload_n rfl rfl ?_
        refine tl_dup rfl rfl ?_
        refine tl_geti (c := 12) (k9 := 8) rfl rfl rfl ?_
        rw [hs_o (show (388 : Nat) ≠ 393 by decide)]
        refine tl_iconst rfl ?_
        refine tl_iadd rfl ?_
        refine tl_puti (c := 12) (k9 := 8) rfl rfl rfl rfl ?_
        change jT _ _ _ _ _ (Tadd m2 (v / 256 % 256)) _
        have e3 := Tadd_n (s := m2) (x := v / 256 % 256)
        generalize g3 : Tadd m2 (v / 256 % 256) = m3 at e3 ⊢
        refine tl_iinc rfl rfl rfl ?_
        show jT _ _ 36 _ _ _ _
        refine tl_goto (tgt := 3) rfl rfl ?_
        show jT _ _ 3 _ _ _ _
        -- leaf 1 at 3
        refine tl_iload_n rfl rfl ?_
        refine tl_if_lt (tgt := 39) rfl rfl ⟨by omega, by omega⟩ (fun c1 => ?_) (fun c1 => ?_)
        · skip
          refine tl_ret rfl ?_
          -- leaf 0 at 39
          omega
        · show jT _ _ 7 _ _ _ _
          refine tl_aload_n rfl rfl ?_
          refine tl_getr (c := 12) (k9 := 7) (b := 393) rfl rfl rfl rfl ?_
          refine tl_aload_n rfl rfl ?_
          show jT _ _ 12 _ _ _ _
          refine tl_geti (c := 12) (k9 := 8) rfl rfl rfl ?_
          refine tl_iload_n rfl rfl ?_
          refine tl_iload_n rfl rfl ?_
          refine tl_ishr rfl (jI_shr0 hv) ?_
          refine tl_sipush rfl rfl ?_
          refine tl_iand rfl (jI_and255 _) ?_
          refine tl_iast (n := 400) rfl rfl rfl (by omega) (by omega) ?_
          show jT _ _ 23 _ _ _ _
          refine tl_aload_n rfl rfl ?_
          refine tl_dup rfl rfl ?_
          refine tl_geti (c := 12) (k9 := 8) rfl rfl rfl ?_
          rw [hs_o (show (388 : Nat) ≠ 393 by decide)]
          refine tl_iconst rfl ?_
          refine tl_iadd rfl ?_
          refine tl_puti (c := 12) (k9 := 8) rfl rfl rfl rfl ?_
          change jT _ _ _ _ _ (Tadd m3 (v / 1 % 256)) _
          have e4 := Tadd_n (s := m3) (x := v / 1 % 256)
          generalize g4 : Tadd m3 (v / 1 % 256) = m4 at e4 ⊢
          refine tl_iinc rfl rfl rfl ?_
          show jT _ _ 36 _ _ _ _
          refine tl_goto (tgt := 3) rfl rfl ?_
          show jT _ _ 3 _ _ _ _
          -- leaf 1 at 3
          refine tl_iload_n rfl rfl ?_
          refine tl_if_lt (tgt := 39) rfl rfl ⟨by omega, by omega⟩ (fun c5 => ?_) (fun c5 => ?_)
          · refine tl_ret rfl ?_
            refine ⟨rfl, ?_⟩
            rw [Tfour, g1, g2, g3, g4]
          · omega
set_option maxRecDepth 20000 in
set_option maxHeartbeats 1000000 in
theorem k_feed (l : Launch) (h s : jH) (t a b c d e : Int) (hI : IC h s t) (ha : jr a) (hb : jr b) (hc : jr c) (hd : jr d) (he : jr e) : cI l 138 [.ref 0, .int (jI a), .int (jI b), .int (jI c), .int (jI d), .int (jI e)] h (fun z h' => z = Afeed s ∧ IC h' (Tfeed s a b c d e) t ∧ ∀ x, 388 ≤ x → h' x = h x) := by
  have tp := hI.tape
  refine cI.of rfl rfl ?_
  refine tl_aload_n rfl rfl ?_
  refine tl_getr (c := 11) (k9 := 5) (b := 309) rfl rfl rfl rfl ?_
  refine tl_geti (c := 8) (k9 := 1) rfl rfl rfl ?_
  refine tl_bipush rfl rfl ?_
  refine tl_iadd rfl ?_
  refine tl_sipush rfl rfl ?_
  show jT _ _ 13 _ _ _ _
  refine tl_icmp_le (tgt := 18) rfl rfl ⟨by omega, by omega⟩ ⟨by omega, by omega⟩ (fun c1 => ?_) (fun c1 => ?_)
  · skip
    refine tl_aload_n rfl rfl ?_
    refine tl_iload_n rfl rfl ?_
    refine tl_v1v (c9 := 11) (k_feedFour l _ _ t a hI ha (by omega)) rfl rfl rfl rfl rfl (Nat.le_of_ble_eq_true rfl) (fun h1 p1 => ?_)
    obtain ⟨i1, f1⟩ := p1
    have e1 := Tfour_n (s := s) (x := a)
    refine tl_aload_n rfl rfl ?_
    refine tl_iload_n rfl rfl ?_
    refine tl_v1v (c9 := 11) (k_feedFour l _ _ t b i1 hb (by omega)) rfl rfl rfl rfl rfl (Nat.le_of_ble_eq_true rfl) (fun h2 p2 => ?_)
    obtain ⟨i2, f2⟩ := p2
    have e2 := Tfour_n (s := (Tfour s a)) (x := b)
    show jT _ _ 28 _ _ _ _
    refine tl_aload_n rfl rfl ?_
    refine tl_iload_n rfl rfl ?_
    refine tl_v1v (c9 := 11) (k_feedFour l _ _ t c i2 hc (by omega)) rfl rfl rfl rfl rfl (Nat.le_of_ble_eq_true rfl) (fun h3 p3 => ?_)
    obtain ⟨i3, f3⟩ := p3
    have e3 := Tfour_n (s := (Tfour (Tfour s a) b)) (x := c)
    refine tl_aload_n rfl rfl ?_
    refine tl_iload rfl rfl ?_
    refine tl_v1v (c9 := 11) (k_feedFour l _ _ t d i3 hd (by omega)) rfl rfl rfl rfl rfl (Nat.le_of_ble_eq_true rfl) (fun h4 p4 => ?_)
    obtain ⟨i4, f4⟩ := p4
    have e4 := Tfour_n (s := (Tfour (Tfour (Tfour s a) b) c)) (x := d)
    refine tl_aload_n rfl rfl ?_
    show jT _ _ 40 _ _ _ _
    refine tl_iload rfl rfl ?_
    refine tl_v1v (c9 := 11) (k_feedFour l _ _ t e i4 he (by omega)) rfl rfl rfl rfl rfl (Nat.le_of_ble_eq_true rfl) (fun h5 p5 => ?_)
    obtain ⟨i5, f5⟩ := p5
    have e5 := Tfour_n (s := (Tfour (Tfour (Tfour (Tfour s a) b) c) d)) (x := e)
    refine tl_aload_n rfl rfl ?_
    refine tl_getr (c := 11) (k9 := 5) (b := 309) rfl rfl rfl rfl ?_
    refine tl_geti (c := 8) (k9 := 1) rfl rfl rfl ?_
    refine tl_iret rfl ?_
    -- leaf 0 at 52
    have tq := i5.tape
    refine ⟨_, rfl, ?_, ?_, fun x hx => ?_⟩
    · rw [Afeed, if_pos (by omega)]; omega
    · rw [Tfeed, if_pos (by omega)]; exact i5
    · rw [f5 x (by omega) (by omega), f4 x (by omega) (by omega), f3 x (by omega) (by omega), f2 x (by omega) (by omega), f1 x (by omega) (by omega)]
  · show jT _ _ 16 _ _ _ _
    refine tl_iconst rfl ?_
    show jT _ _ 17 _ _ _ _
    refine tl_iret rfl ?_
    -- leaf 1 at 17
    refine ⟨_, rfl, ?_, ?_, fun x hx => rfl⟩
    · rw [Afeed, if_neg (by omega)]
    · rw [Tfeed, if_neg (by omega)]; exact hI
set_option maxRecDepth 20000 in
set_option maxHeartbeats 1000000 in
theorem r_feed (l : Launch) (g h : jH) (t a b c d e : Int) (hI0 : IC g h t) (ha : jr a) (hb : jr b) (hc : jr c) (hd : jr d) (he : jr e) : cI l 218 [.ref 388, .int (jI a), .int (jI b), .int (jI c), .int (jI d), .int (jI e)] h (fun z h' => z = Afeed (Tz h) ∧ h' = Tfeed (Tz h) a b c d e) := by
  refine cI.of rfl rfl ?_
  refine tl_aload_n rfl rfl ?_
  refine tl_iconst rfl ?_
  refine tl_puti (c := 12) (k9 := 0) rfl rfl rfl rfl ?_
  have hI := hI0.z
  change jT _ _ _ _ _ (Tz h) _
  generalize Tz h = m at hI ⊢
  have tp := hI.tape
  refine tl_aload_n rfl rfl ?_
  refine tl_geti (c := 12) (k9 := 8) rfl rfl rfl ?_
  refine tl_bipush rfl rfl ?_
  show jT _ _ 11 _ _ _ _
  refine tl_iadd rfl ?_
  refine tl_sipush rfl rfl ?_
  refine tl_icmp_le (tgt := 20) rfl rfl ⟨by omega, by omega⟩ ⟨by omega, by omega⟩ (fun c1 => ?_) (fun c1 => ?_)
  · skip
    refine tl_aload_n rfl rfl ?_
    refine tl_iload_n rfl rfl ?_
    refine tl_v1v (c9 := 12) (r_four l _ a ha (by omega) (by omega)) rfl rfl rfl rfl rfl (Nat.le_of_ble_eq_true rfl) (fun h1 p1 => ?_)
    subst p1
    have e1 := Tfour_n (s := m) (x := a)
    refine tl_aload_n rfl rfl ?_
    show jT _ _ 26 _ _ _ _
    refine tl_iload_n rfl rfl ?_
    refine tl_v1v (c9 := 12) (r_four l _ b hb (by omega) (by omega)) rfl rfl rfl rfl rfl (Nat.le_of_ble_eq_true rfl) (fun h2 p2 => ?_)
    subst p2
    have e2 := Tfour_n (s := (Tfour m a)) (x := b)
    refine tl_aload_n rfl rfl ?_
    refine tl_iload_n rfl rfl ?_
    refine tl_v1v (c9 := 12) (r_four l _ c hc (by omega) (by omega)) rfl rfl rfl rfl rfl (Nat.le_of_ble_eq_true rfl) (fun h3 p3 => ?_)
    subst p3
    have e3 := Tfour_n (s := (Tfour (Tfour m a) b)) (x := c)
    refine tl_aload_n rfl rfl ?_
    refine tl_iload rfl rfl ?_
    show jT _ _ 38 _ _ _ _
    refine tl_v1v (c9 := 12) (r_four l _ d hd (by omega) (by omega)) rfl rfl rfl rfl rfl (Nat.le_of_ble_eq_true rfl) (fun h4 p4 => ?_)
    subst p4
    have e4 := Tfour_n (s := (Tfour (Tfour (Tfour m a) b) c)) (x := d)
    refine tl_aload_n rfl rfl ?_
    refine tl_iload rfl rfl ?_
    refine tl_v1v (c9 := 12) (r_four l _ e he (by omega) (by omega)) rfl rfl rfl rfl rfl (Nat.le_of_ble_eq_true rfl) (fun h5 p5 => ?_)
    subst p5
    have e5 := Tfour_n (s := (Tfour (Tfour (Tfour (Tfour m a) b) c) d)) (x := e)
    refine tl_aload_n rfl rfl ?_
    refine tl_geti (c := 12) (k9 := 8) rfl rfl rfl ?_
    refine tl_iret rfl ?_
    -- leaf 0 at 51
    refine ⟨_, rfl, ?_, ?_⟩
    · rw [Afeed, if_pos (by omega)]; omega
    · rw [Tfeed, if_pos (by omega)]
  · show jT _ _ 18 _ _ _ _
    show jT _ _ 18 _ _ _ _
    refine tl_iconst rfl ?_
    refine tl_iret rfl ?_
    -- leaf 1 at 19
    refine ⟨_, rfl, ?_, ?_⟩
    · rw [Afeed, if_neg (by omega)]
    · rw [Tfeed, if_neg (by omega)]
set_option maxRecDepth 20000 in
set_option maxHeartbeats 1000000 in
theorem k_end (l : Launch) (h s : jH) (t n : Int) (hI : IC h s t) (hn : jr n) : cI l 140 [.ref 0, .int (jI n)] h (fun z h' => z = Aend s n ∧ IC h' (Tend s n) t ∧ ∀ x, 388 ≤ x → h' x = h x) := by
  have n1 := hn.1
  have n2 := hn.2
  have tp := hI.tape
  refine cI.of rfl rfl ?_
  refine tl_iload_n rfl rfl ?_
  refine tl_if_lt (tgt := 15) rfl rfl ⟨by omega, by omega⟩ (fun c1 => ?_) (fun c1 => ?_)
  · skip
    refine tl_iconst rfl ?_
    refine tl_iret rfl ?_
    -- leaf 0 at 16
    refine ⟨_, rfl, ?_, ?_, fun x hx => rfl⟩
    · rw [Aend, if_neg (by omega)]
    · rw [Tend, if_neg (by omega)]; exact hI
  · show jT _ _ 4 _ _ _ _
    refine tl_iload_n rfl rfl ?_
    refine tl_aload_n rfl rfl ?_
    show jT _ _ 6 _ _ _ _
    refine tl_getr (c := 11) (k9 := 5) (b := 309) rfl rfl rfl rfl ?_
    refine tl_geti (c := 8) (k9 := 1) rfl rfl rfl ?_
    refine tl_icmp_le (tgt := 17) rfl rfl ⟨by omega, by omega⟩ ⟨by omega, by omega⟩ (fun c2 => ?_) (fun c2 => ?_)
    · skip
      refine tl_aload_n rfl rfl ?_
      refine tl_getr (c := 11) (k9 := 5) (b := 309) rfl rfl rfl rfl ?_
      refine tl_iload_n rfl rfl ?_
      refine tl_puti (c := 8) (k9 := 1) rfl rfl rfl rfl ?_
      show jT _ _ 25 _ _ _ _
      refine tl_iload_n rfl rfl ?_
      refine tl_iret rfl ?_
      -- leaf 1 at 26
      refine ⟨_, rfl, ?_, ?_, fun x hx => hs_O (by omega)⟩
      · rw [Aend, if_pos (by omega)]
      · rw [Tend, if_pos (by omega)]; exact hI.cutTape (by omega) (by omega)
    · show jT _ _ 15 _ _ _ _
      refine tl_iconst rfl ?_
      refine tl_iret rfl ?_
      -- leaf 2 at 16
      refine ⟨_, rfl, ?_, ?_, fun x hx => rfl⟩
      · rw [Aend, if_neg (by omega)]
      · rw [Tend, if_neg (by omega)]; exact hI
set_option maxRecDepth 20000 in
set_option maxHeartbeats 1000000 in
theorem r_end (l : Launch) (g h : jH) (t n : Int) (hI0 : IC g h t) (hn : jr n) : cI l 219 [.ref 388, .int (jI n)] h (fun z h' => z = Aend (Tz h) n ∧ h' = Tend (Tz h) n) := by
  have n1 := hn.1
  have n2 := hn.2
  refine cI.of rfl rfl ?_
  refine tl_aload_n rfl rfl ?_
  refine tl_iconst rfl ?_
  refine tl_puti (c := 12) (k9 := 0) rfl rfl rfl rfl ?_
  have hI := hI0.z
  change jT _ _ _ _ _ (Tz h) _
  generalize Tz h = m at hI ⊢
  have tp := hI.tape
  refine tl_iload_n rfl rfl ?_
  refine tl_if_lt (tgt := 17) rfl rfl ⟨by omega, by omega⟩ (fun c1 => ?_) (fun c1 => ?_)
  · skip
    refine tl_iconst rfl ?_
    show jT _ _ 18 _ _ _ _
    refine tl_iret rfl ?_
    -- leaf 0 at 18
    refine ⟨_, rfl, ?_, ?_⟩
    · rw [Aend, if_neg (by omega)]
    · rw [Tend, if_neg (by omega)]
  · show jT _ _ 9 _ _ _ _
    refine tl_iload_n rfl rfl ?_
    refine tl_aload_n rfl rfl ?_
    refine tl_geti (c := 12) (k9 := 8) rfl rfl rfl ?_
    refine tl_icmp_le (tgt := 19) rfl rfl ⟨by omega, by omega⟩ ⟨by omega, by omega⟩ (fun c2 => ?_) (fun c2 => ?_)
    · skip
      refine tl_aload_n rfl rfl ?_
      refine tl_iload_n rfl rfl ?_
      show jT _ _ 21 _ _ _ _
      refine tl_puti (c := 12) (k9 := 8) rfl rfl rfl rfl ?_
      refine tl_iload_n rfl rfl ?_
      refine tl_iret rfl ?_
      -- leaf 1 at 25
      refine ⟨_, rfl, ?_, ?_⟩
      · rw [Aend, if_pos (by omega)]
      · rw [Tend, if_pos (by omega)]
    · show jT _ _ 17 _ _ _ _
      refine tl_iconst rfl ?_
      refine tl_iret rfl ?_
      -- leaf 2 at 18
      refine ⟨_, rfl, ?_, ?_⟩
      · rw [Aend, if_neg (by omega)]
      · rw [Tend, if_neg (by omega)]
