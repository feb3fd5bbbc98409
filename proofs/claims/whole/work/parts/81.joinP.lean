/-! join: origins followed -/
theorem IC.nums {h h' s s' : jH} {t : Int} (hI : IC h s t) (e1 : ∀ x, 0 < x → x < 313 → h' x = h x) (e2 : ∀ q, q ≠ 9 → h' 0 q = h 0 q) (e3 : ∀ x, 389 ≤ x → x ≤ 393 → s' x = s x) (e4 : ∀ q, q = 1 ∨ q = 6 ∨ q = 8 → s' 388 q = s 388 q) (n9 : h' 0 9 = s' 388 45 ∧ 0 ≤ h' 0 9 ∧ h' 0 9 ≤ 7) (n4 : h' 356 4 = s' 388 48 ∧ jr (h' 356 4)) (n5 : h' 356 5 = s' 388 49 ∧ jr (h' 356 5)) (n0 : h' 362 0 = s' 388 59 ∧ jr (h' 362 0)) (n1 : h' 362 1 = s' 388 74 ∧ jr (h' 362 1)) : IC h' s' t := by
  obtain ⟨hR, hU, hT, m1, m2, m3, m4, m5⟩ := hI
  refine ⟨?_, ?_, ?_, ?_⟩
  · rw [e3 390 (by decide) (by decide)]
    exact hR.keep (fun x h1 h2 => e1 x (by omega) (by omega))
  · have hU2 := IC.undo_same (h' := h') hU (e2 3 (by decide)) (e2 4 (by decide)) (e1 308 (by decide) (by decide)) (fun x h1 h2 => e1 x (by omega) (by omega))
    rw [RU, e4 6 (by decide), e3 391 (by decide) (by decide), e3 392 (by decide) (by decide)]
    exact hU2
  · exact hT.keep (e1 _ (by decide) (by decide)) (e1 _ (by decide) (by decide)) (e4 _ (by decide)) (e3 _ (by decide) (by decide))
  · rw [RN, e2 8 (by decide), e1 311 (by decide) (by decide), e1 312 (by decide) (by decide), e3 390 (by decide) (by decide), e3 389 (by decide) (by decide), e4 1 (by decide)]
    exact ⟨m1, m2, m3, m4, n9.1, n9.2.1, n9.2.2, n4.1, n4.2, n5.1, n5.2, n0.1, n0.2, n1⟩
theorem IC.n45 {h s : jH} {t : Int} (hI : IC h s t) : (h 0 9 = s 388 45 ∧ 0 ≤ h 0 9 ∧ h 0 9 ≤ 7) ∧ (h 356 4 = s 388 48 ∧ jr (h 356 4)) ∧ (h 356 5 = s 388 49 ∧ jr (h 356 5)) ∧ (h 362 0 = s 388 59 ∧ jr (h 362 0)) ∧ (h 362 1 = s 388 74 ∧ jr (h 362 1)) := by
  obtain ⟨_, _, _, m1, m2, m3, m4, m5, m6, m7, m8, m9, m10, m11, m12, m13, m14⟩ := hI
  exact ⟨⟨m5, m6, m7⟩, ⟨m8, m9⟩, ⟨m10, m11⟩, ⟨m12, m13⟩, m14⟩
def lat (s : jH) (f : Int) : jH := hs s 388 45 f
theorem IC.lat9 {h h' s : jH} {t f : Int} (hI : IC h s t) (f0 : 0 ≤ f ∧ f ≤ 7) (e : ∀ x, 0 < x → (x < 313 ∨ x = 356 ∨ x = 362) → h' x = h x) (e0 : ∀ q, q ≠ 9 → h' 0 q = h 0 q) (e9 : h' 0 9 = f) : IC h' (lat s f) t := by
  have n := hI.n45
  have g : ∀ q, q ≠ 45 → lat s f 388 q = s 388 q := fun q hq => hs_k hq
  refine hI.nums (fun x a b => e x (by omega) (by omega)) e0 (fun x a b => hs_O (by omega)) (fun q hq => g q (by omega)) ⟨e9.trans hs_s.symm, by rw [e9]; exact f0.1, by rw [e9]; exact f0.2⟩ ?_ ?_ ?_ ?_
  · rw [e 356 (by decide) (by decide), g 48 (by decide)]; exact n.2.1
  · rw [e 356 (by decide) (by decide), g 49 (by decide)]; exact n.2.2.1
  · rw [e 362 (by decide) (by decide), g 59 (by decide)]; exact n.2.2.2.1
  · rw [e 362 (by decide) (by decide), g 74 (by decide)]; exact n.2.2.2.2
theorem Ag.lat {s s' : jH} (h : Ag s s') (f : Int) : Ag (lat s f) (lat s' f) := h.s1 rfl
theorem lat_390 {s : jH} {f : Int} : lat s f 390 = s 390 := hs_O (by decide)
theorem RF.lat {s s' : jH} {f : Int} (h : RF s s') : RF (lat s f) (hs s' 388 45 f) := by
  refine ⟨fun x hx => ?_, fun q hq => ?_⟩
  · by_cases c : x = 388
    · omega
    · rw [hs_O c]; show _ = hs s 388 45 f x; rw [hs_O c]; exact h.1 x hx
  · by_cases c : q = 45
    · subst c; rw [hs_s]; exact hs_s.symm
    · rw [hs_k c]; show _ = hs s 388 45 f 388 q; rw [hs_k c]; exact h.2 q hq
/-- each spot from a spot of those ahead is from what that is from -/
def FOL (ga gb : jH) : jH := fun r i => if gb 0 i = -1 then gb r i else if r = 0 then ga 0 (gb 0 i).toNat else (ga 1 (gb 0 i).toNat + gb 1 i) % 256
theorem FOL_n {ga gb : jH} {i r : Nat} (h : gb 0 i = -1) : FOL ga gb r i = gb r i := by unfold FOL; rw [if_pos h]
theorem FOL_0 {ga gb : jH} {i : Nat} (h : gb 0 i ≠ -1) : FOL ga gb 0 i = ga 0 (gb 0 i).toNat := by unfold FOL; rw [if_neg h, if_pos rfl]
theorem FOL_1 {ga gb : jH} {i : Nat} (h : gb 0 i ≠ -1) : FOL ga gb 1 i = (ga 1 (gb 0 i).toNat + gb 1 i) % 256 := by unfold FOL; rw [if_neg h, if_neg (by decide)]
theorem FOL_v {ga gb : jH} {na nb : Nat} (ha : OGv ga na) (hb : OGv gb nb) (hl : ∀ q, q < nb → gb 0 q = -1 ∨ (0 ≤ gb 0 q ∧ gb 0 q < (na : Int))) : OGv (FOL ga gb) nb := by
  refine ⟨hb.1, fun i hi => ?_⟩
  unfold FOL
  by_cases c : gb 0 i = -1
  · rw [if_pos c, if_pos c]; exact hb.2 i hi
  · rw [if_neg c, if_neg c, if_pos rfl, if_neg (by decide)]
    have a := hl i hi
    exact ⟨(ha.2 (gb 0 i).toNat (by omega)).1, by unfold byt; omega⟩
set_option maxRecDepth 20000 in
set_option maxHeartbeats 1000000 in
theorem c_Or_copy (l : Launch) {o a b o2 a2 b2 : Nat} (hO : OrS o a b) (hO2 : OrS o2 a2 b2) (hD : o ≠ a ∧ o ≠ b ∧ a ≠ b ∧ o ≠ a2 ∧ o ≠ b2 ∧ a ≠ b2) (h g : jH) (n : Nat) (n64 : n ≤ 64) (hg : OG h o2 a2 b2 g n) : cV l 38 [.ref o, .ref o2] h (fun h' => OG h' o a b g n ∧ ∀ x, x ≠ o → x ≠ a → x ≠ b → h' x = h x) := by
  obtain ⟨d1, d2, d3, d4, d5, d6⟩ := hD
  refine cV.of rfl rfl ?_
  refine tl_aload_n rfl rfl ?_
  refine tl_aload_n rfl rfl ?_
  refine tl_geti (c := 3) (k9 := 2) rfl hO2.1 rfl ?_
  refine tl_puti (c := 3) (k9 := 2) rfl rfl hO.1 rfl ?_
  refine tl_aload_n rfl rfl ?_
  refine tl_getr (c := 3) (k9 := 0) rfl hO2.1 rfl hO2.2.1 ?_
  show jT _ _ 12 _ _ _ _
  refine tl_iconst rfl ?_
  refine tl_aload_n rfl rfl ?_
  refine tl_getr (c := 3) (k9 := 0) rfl hO.1 rfl hO.2.1 ?_
  refine tl_iconst rfl ?_
  refine tl_bipush rfl rfl ?_
  refine tl_copy rfl hO2.2.2.2.1 hO.2.2.2.1 hO2.2.2.2.2.1 hO.2.2.2.2.1 (by omega) (by omega) (by omega) (by omega) (by omega) (Nat.le_of_ble_eq_true rfl) rfl ?_
  refine tl_aload_n rfl rfl ?_
  show jT _ _ 24 _ _ _ _
  refine tl_getr (c := 3) (k9 := 1) rfl hO2.1 rfl hO2.2.2.1 ?_
  refine tl_iconst rfl ?_
  refine tl_aload_n rfl rfl ?_
  refine tl_getr (c := 3) (k9 := 1) rfl hO.1 rfl hO.2.2.1 ?_
  refine tl_iconst rfl ?_
  refine tl_bipush rfl rfl ?_
  refine tl_copy rfl hO2.2.2.2.2.2.1 hO.2.2.2.2.2.1 hO2.2.2.2.2.2.2.1 hO.2.2.2.2.2.2.1 (by omega) (by omega) (by omega) (by omega) (by omega) (Nat.le_of_ble_eq_true rfl) rfl ?_
  show jT _ _ 38 _ _ _ _
  refine tl_ret rfl ?_
  -- leaf 0 at 38
  refine ⟨rfl, ⟨?_, fun i hi => ?_⟩, fun x x1 x2 x3 => ?_⟩
  · rw [hw_o d2, hw_o d1, hs_s]; exact hg.1
  · have w1 := (hg.2 i hi).1
    have w2 := (hg.2 i hi).2
    refine ⟨?_, ?_⟩
    · rw [hw_o d3, hw_s, va_cpy, if_pos (by omega), hs_O (Ne.symm d4), show Int.toNat 0 + (i - Int.toNat 0) = i by omega]; exact w1
    · rw [hw_s, va_cpy, if_pos (by omega), hw_o (Ne.symm d6), hs_O (Ne.symm d5), show Int.toNat 0 + (i - Int.toNat 0) = i by omega]; exact w2
  · rw [hw_o x3, hw_o x2, hs_O x1]
set_option maxRecDepth 20000 in
set_option maxHeartbeats 1000000 in
theorem k_fol_lp (l : Launch) (h ga gb : jH) (na nb : Nat) (hb : OG h 345 346 347 gb nb) (ha : OG h 383 384 385 ga na) (va : OGv ga na) (vb : OGv gb nb) (hl : ∀ q, q < nb → gb 0 q = -1 ∨ (0 ≤ gb 0 q ∧ gb 0 q < (na : Int))) (P : Option Value → jH → Prop) (hP : ∀ mem, (OG mem 345 346 347 (FOL ga gb) nb ∧ ∀ x, x ≠ 346 → x ≠ 347 → mem x = h x) → P none mem) : ∀ (m : Nat) (k : Nat) (mem : jH) (y3 : Option Value), nb - k < m → (k ≤ nb ∧ (∀ q, q < nb → mem 346 q = (if q < k then FOL ga gb 0 q else gb 0 q) ∧ mem 347 q = (if q < k then FOL ga gb 1 q else gb 1 q)) ∧ ∀ x, x ≠ 346 → x ≠ 347 → mem x = h x) → jT l 45 2 [some (.ref 345), some (.ref 383), some (.int (jI ((k : Int)))), y3] [] mem P := by
  have n1 := vb.1
  have n2 := va.1
  intro m
  induction m with
  | zero => intro k mem y3 hk; omega
  | succ m ih =>
    intro k mem y3 hk hi
    obtain ⟨i0, i1, fr⟩ := hi
    have eb : mem 345 2 = (nb : Int) := by rw [fr 345 (by decide) (by decide)]; exact hb.1
    have ea : mem 383 2 = (na : Int) := by rw [fr 383 (by decide) (by decide)]; exact ha.1
    have kf : nb ≤ k ∨ (k < nb ∧ mem 346 k = gb 0 k ∧ mem 347 k = gb 1 k ∧ (gb 0 k = -1 ∨ (0 ≤ gb 0 k ∧ gb 0 k < (na : Int) ∧ mem 384 (gb 0 k).toNat = ga 0 (gb 0 k).toNat ∧ mem 385 (gb 0 k).toNat = ga 1 (gb 0 k).toNat ∧ 0 ≤ ga 1 (gb 0 k).toNat ∧ ga 1 (gb 0 k).toNat ≤ 255)) ∧ 0 ≤ gb 1 k ∧ gb 1 k ≤ 255) := by
      by_cases c : k < nb
      · right
        have a := i1 k c
        rw [if_neg (by omega), if_neg (by omega)] at a
        refine ⟨c, a.1, a.2, ?_, (vb.2 k c).2⟩
        rcases hl k c with d | d
        · exact Or.inl d
        · right
          have f := ha.2 (gb 0 k).toNat (by omega)
          have g := (va.2 (gb 0 k).toNat (by omega)).2
          rw [fr 384 (by decide) (by decide), fr 385 (by decide) (by decide)]
          exact ⟨d.1, d.2, f.1, f.2, g⟩
      · exact Or.inl (by omega)
    refine tl_iload_n rfl rfl ?_
    refine tl_aload_n rfl rfl ?_
    refine tl_geti (c := 3) (k9 := 2) rfl rfl rfl ?_
    rw [eb]
    refine tl_icmp_ge (tgt := 52) rfl rfl ⟨by omega, by omega⟩ ⟨by omega, by omega⟩ (fun c1 => ?_) (fun c1 => ?_)
    · skip
      refine tl_ret rfl ?_
      -- leaf 0 at 52
      have e : k = nb := by omega
      subst e
      refine hP _ ⟨⟨eb, fun q hq => ?_⟩, fr⟩
      have a := i1 q hq
      rw [if_pos hq, if_pos hq] at a
      exact a
    · show jT _ _ 10 _ _ _ _
      refine tl_aload_n rfl rfl ?_
      show jT _ _ 11 _ _ _ _
      refine tl_iload_n rfl rfl ?_
      refine tl_v1i (c9 := 3) (c_Or_placeAt l Or345 mem ((k : Int)) ⟨by omega, by omega⟩ (by rw [eb]; omega) (by rw [eb]; omega)) rfl rfl rfl rfl rfl (Nat.le_of_ble_eq_true rfl) (fun z1 h1 p1 => ?_)
      obtain ⟨q1, e1⟩ := p1
      have q1 := q1.symm
      subst q1
      rw [if_pos (by rw [eb]; omega)] at e1
      rw [Int.toNat_natCast, show mem 346 k = gb 0 k by omega] at e1
      subst e1
      refine tl_istore_n rfl (Nat.le_of_ble_eq_true rfl) rfl ?_
      refine tl_iload_n rfl rfl ?_
      refine tl_iconst rfl ?_
      refine tl_icmp_eq (tgt := 46) rfl rfl ⟨by omega, by omega⟩ ⟨by omega, by omega⟩ (fun c2 => ?_) (fun c2 => ?_)
      · skip
        refine tl_iinc rfl rfl rfl ?_
        show jT _ _ 49 _ _ _ _
        refine tl_goto (tgt := 2) rfl rfl ?_
        show jT _ _ 2 _ _ _ _
        -- leaf 1 at 2
        refine jT.loc ?_ (ih (k + 1) mem (some (.int (jI (gb 0 k)))) (by omega) ⟨by omega, fun q hq => ?_, fr⟩)
        · rw [show ((k + 1 : Nat) : Int) = (k : Int) + 1 by omega]; rfl
        · by_cases c : q = k
          · subst c
            have a := i1 q hq
            rw [if_neg (by omega), if_neg (by omega)] at a
            rw [if_pos (by omega), if_pos (by omega), FOL_n (by omega), FOL_n (by omega)]; exact a
          · have a := i1 q hq
            by_cases d : q < k
            · rw [if_pos d, if_pos d] at a; rw [if_pos (by omega), if_pos (by omega)]; exact a
            · rw [if_neg d, if_neg d] at a; rw [if_neg (by omega), if_neg (by omega)]; exact a
      · show jT _ _ 21 _ _ _ _
        refine tl_aload_n rfl rfl ?_
        refine tl_iload_n rfl rfl ?_
        refine tl_aload_n rfl rfl ?_
        refine tl_iload_n rfl rfl ?_
        refine tl_v1i (c9 := 3) (c_Or_placeAt l Or383 mem (gb 0 k) ⟨by omega, by omega⟩ (by rw [ea]; omega) (by rw [ea]; omega)) rfl rfl rfl rfl rfl (Nat.le_of_ble_eq_true rfl) (fun z2 h2 p2 => ?_)
        obtain ⟨q2, e2⟩ := p2
        have q2 := q2.symm
        subst q2
        rw [if_pos (by rw [ea]; omega)] at e2
        rw [show mem 384 (gb 0 k).toNat = ga 0 (gb 0 k).toNat by omega] at e2
        subst e2
        refine tl_aload_n rfl rfl ?_
        show jT _ _ 29 _ _ _ _
        refine tl_iload_n rfl rfl ?_
        refine tl_v1i (c9 := 3) (c_Or_valueAt l Or383 mem (gb 0 k) ⟨by omega, by omega⟩ (by rw [ea]; omega) (by rw [ea]; omega)) rfl rfl rfl rfl rfl (Nat.le_of_ble_eq_true rfl) (fun z3 h3 p3 => ?_)
        obtain ⟨q3, e3⟩ := p3
        have q3 := q3.symm
        subst q3
        rw [if_pos (by rw [ea]; omega)] at e3
        rw [show mem 385 (gb 0 k).toNat = ga 1 (gb 0 k).toNat by omega] at e3
        subst e3
        refine tl_aload_n rfl rfl ?_
        refine tl_iload_n rfl rfl ?_
        refine tl_v1i (c9 := 3) (c_Or_valueAt l Or345 mem ((k : Int)) ⟨by omega, by omega⟩ (by rw [eb]; omega) (by rw [eb]; omega)) rfl rfl rfl rfl rfl (Nat.le_of_ble_eq_true rfl) (fun z4 h4 p4 => ?_)
        obtain ⟨q4, e4⟩ := p4
        have q4 := q4.symm
        subst q4
        rw [if_pos (by rw [eb]; omega)] at e4
        rw [Int.toNat_natCast, show mem 347 k = gb 1 k by omega] at e4
        subst e4
        refine tl_iadd rfl ?_
        refine tl_sipush rfl rfl ?_
        show jT _ _ 42 _ _ _ _
        refine tl_iand rfl (jI_and255 _) ?_
        refine tl_v3v (c9 := 3) (c_Or_change l Or345 mem (k : Int) (ga 0 (gb 0 k).toNat) _ (by omega) (by rw [eb]; omega) (by rw [eb]; omega)) rfl rfl rfl rfl rfl (Nat.le_of_ble_eq_true rfl) (fun h9 p9 => ?_)
        subst p9
        rw [Int.toNat_natCast]
        refine tl_iinc rfl rfl rfl ?_
        refine tl_goto (tgt := 2) rfl rfl ?_
        show jT _ _ 2 _ _ _ _
        -- leaf 2 at 2
        refine jT.loc ?_ (ih (k + 1) _ (some (.int (jI (gb 0 k)))) (by omega) ⟨by omega, fun q hq => ?_, fun x x1 x2 => by rw [hs_O x2, hs_O x1]; exact fr x x1 x2⟩)
        · rw [show ((k + 1 : Nat) : Int) = (k : Int) + 1 by omega]; rfl
        · by_cases c : q = k
          · subst c
            rw [if_pos (by omega), if_pos (by omega), FOL_0 (by omega), FOL_1 (by omega), hs_s, hs_o (by decide), hs_s]
            exact ⟨rfl, rfl⟩
          · have a := i1 q hq
            rw [hs_k2 c, hs_k2 c, hs_k2 c, hs_k2 c]
            by_cases d : q < k
            · rw [if_pos d, if_pos d] at a; rw [if_pos (by omega), if_pos (by omega)]; exact a
            · rw [if_neg d, if_neg d] at a; rw [if_neg (by omega), if_neg (by omega)]; exact a
set_option maxRecDepth 20000 in
set_option maxHeartbeats 1000000 in
theorem k_follow (l : Launch) (h ga gb : jH) (na nb : Nat) (hb : OG h 345 346 347 gb nb) (ha : OG h 383 384 385 ga na) (va : OGv ga na) (vb : OGv gb nb) (hl : ∀ q, q < nb → gb 0 q = -1 ∨ (0 ≤ gb 0 q ∧ gb 0 q < (na : Int))) : cV l 45 [.ref 345, .ref 383] h (fun h' => OG h' 345 346 347 (FOL ga gb) nb ∧ ∀ x, x ≠ 346 → x ≠ 347 → h' x = h x) := by
  refine cV.of rfl rfl ?_
  refine tl_iconst rfl ?_
  refine tl_istore_n rfl (Nat.le_of_ble_eq_true rfl) rfl ?_
  show jT _ _ 2 _ _ _ _
  -- leaf 0 at 2
  exact k_fol_lp l h ga gb na nb hb ha va vb hl _ (fun mem hz => ⟨rfl, hz⟩) _ 0 h _ (Nat.lt_succ_self _) ⟨Nat.zero_le _, fun q hq => by rw [if_neg (by omega), if_neg (by omega)]; exact hb.2 q hq, fun _ _ _ => rfl⟩
