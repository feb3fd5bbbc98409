/-! recipes: readAll, of the class -/
set_option maxRecDepth 20000 in
set_option maxHeartbeats 1000000 in
theorem k_readAll (l : Launch) (h : jH) (B : Nat → Int) (N : Nat) (e1 : h 309 1 = (N : Int)) (e2 : ∀ i, i < N → h 310 i = B i) (n400 : N ≤ 400) (hb : ∀ i, i < N → byt (B i)) : cI l 78 [.ref 362, .ref 309] h (fun z h' => (((pX B N).1.1 = true → z = 0 ∧ h' 362 0 = ((pX B N).2.1.1 : Int)) ∧ ((pX B N).1.1 = false → z = 1 ∧ h' 362 0 = -1 ∧ ∃ f ns d T SD, pX B N = ((false, false), (f, ns, d), T, SD) ∧ ∃ h0, CRg B N h0 f ns d T SD ∧ h' = hs h0 362 0 (-1)) ∧ h' 362 1 = -1 ∧ ∀ x, (x < 362 ∨ 372 < x) → h' x = h x)) := by
  refine cI.ofZ rfl rfl ?_
  refine tl_aload_n rfl rfl ?_
  refine tl_getr (c := 7) (k9 := 2) (b := 363) rfl rfl rfl rfl ?_
  refine tl_aload_n rfl rfl ?_
  refine tl_v1v (c9 := 8) (c_Row_copy l rs363 RT_S h (by rw [e1]; omega) (by rw [e1]; omega)) rfl rfl rfl rfl rfl (Nat.le_of_ble_eq_true rfl) (fun h1 p1 => ?_)
  have em : min (h 309 1) ((400 : Nat) : Int) = (N : Int) := by rw [e1]; omega
  rw [em] at p1
  have b1 : h1 363 1 = (N : Int) := by rw [p1, hw_o (by decide), hs_s]
  have b2 : ∀ x, x ≠ 363 → x ≠ 364 → h1 x = h x := fun x x1 x2 => by rw [p1, hw_o x2, hs_O x1]
  have b3 : ∀ i, i < N → h1 364 i = B i := fun i hi => by rw [p1, hw_s, va_cpy, if_pos (by omega)]; rw [← e2 i hi]; congr 1; omega
  refine tl_aload_n rfl rfl ?_
  refine tl_iconst rfl ?_
  show jT _ _ 10 _ _ _ _
  refine tl_puti (c := 7) (k9 := 1) rfl rfl rfl rfl ?_
  refine tl_aload_n rfl rfl ?_
  refine tl_iconst rfl ?_
  refine tl_puti (c := 7) (k9 := 6) rfl rfl rfl rfl ?_
  refine tl_aload_n rfl rfl ?_
  refine tl_iconst rfl ?_
  refine tl_puti (c := 7) (k9 := 15) rfl rfl rfl rfl ?_
  show jT _ _ 23 _ _ _ _
  refine tl_aload_n rfl rfl ?_
  refine tl_getr (c := 7) (k9 := 12) (b := 370) rfl rfl rfl rfl ?_
  refine tl_iconst rfl ?_
  refine tl_puti (c := 8) (k9 := 1) rfl rfl rfl rfl ?_
  refine tl_aload_n rfl rfl ?_
  refine tl_iconst rfl ?_
  refine tl_puti (c := 7) (k9 := 4) rfl rfl rfl rfl ?_
  have txm : TXK (hs (hs (hs (hs (hs h1 362 1 (-1)) 362 6 0) 362 15 0) 370 1 0) 362 4 0) B N := ⟨by rw [hs_O (by decide), hs_O (by decide), hs_O (by decide), hs_O (by decide), hs_O (by decide)]; exact b1, fun i hi => by rw [hs_O (by decide), hs_O (by decide), hs_O (by decide), hs_O (by decide), hs_O (by decide)]; exact b3 i hi, n400, hb⟩
  show jT _ _ 36 _ _ _ _
  refine tl_aload_n rfl rfl ?_
  refine tl_v0v (c9 := 7) (k_nextTok l (hs (hs (hs (hs (hs h1 362 1 (-1)) 362 6 0) 362 15 0) 370 1 0) 362 4 0) B N txm 0 (Nat.zero_le _) hs_s) rfl rfl rfl rfl rfl (Nat.le_of_ble_eq_true rfl) (fun h2 p2 => ?_)
  obtain ⟨a3, a4, fm⟩ := p2
  refine tl_iconst rfl ?_
  refine tl_istore_n rfl (Nat.le_of_ble_eq_true rfl) rfl ?_
  refine tl_iconst rfl ?_
  refine tl_istore_n rfl (Nat.le_of_ble_eq_true rfl) rfl ?_
  refine tl_iconst rfl ?_
  show jT _ _ 45 _ _ _ _
  refine tl_istore rfl (Nat.le_of_ble_eq_true rfl) rfl ?_
  show jT _ _ 47 _ _ _ _
  -- leaf 0 at 47
  have tk : TK h2 B N (skw B N 0) := ⟨txm.of fm.fn, a3, a4, (skw_b (Nat.zero_le _)).2⟩
  have fl0 : ∀ x, (x < 362 ∨ 372 < x) → h2 x = h x := fun x hx => by rw [fm.1 x (by omega), hs_O (by omega), hs_O (by omega), hs_O (by omega), hs_O (by omega), hs_O (by omega)]; exact b2 x (by omega) (by omega)
  have f1 : h2 362 1 = -1 := by rw [fm.2 1 (by decide) (by decide), hs_k (by decide), hs_o (by decide), hs_k (by decide), hs_k (by decide), hs_s]
  refine k_ra_lp l h2 B N (pX B N) _ (fun mem f ns d T SD eX cr fl => ?_) (fun mem f xb xf fl => ?_) _ 0 (skw B N 0) 0 (fun _ _ => 0) [] h2 (Nat.lt_succ_self _) ⟨⟨tk, ?_, ?_, by decide, by decide, fun i hi => absurd hi (Nat.not_lt_zero _), fun e he => absurd he (Nat.not_lt_zero _), fun i hi => absurd hi (Nat.not_lt_zero _), ⟨?_, fun i hi => absurd hi (Nat.not_lt_zero _)⟩, Nat.zero_le _⟩, rfl, fun _ _ => rfl, fun _ _ => rfl⟩
  · refine ⟨1, rfl, Or.inr rfl, fun q => by rw [eX] at q; exact absurd (show false = true from q) (by decide), fun _ => ⟨rfl, hs_s, f, ns, d, T, SD, eX, mem, cr, rfl⟩, by rw [hs_k (by decide), fl.2 1 (Or.inr rfl)]; exact f1, fun x hx => by rw [hs_O (by omega), fl.1 x hx]; exact fl0 x hx⟩
  · refine ⟨0, rfl, Or.inl rfl, fun _ => ⟨rfl, by rw [hs_s, xf]⟩, fun q => by rw [xb] at q; exact absurd q (by decide), by rw [hs_k (by decide), fl.2 1 (Or.inr rfl)]; exact f1, fun x hx => by rw [hs_O (by omega), fl.1 x hx]; exact fl0 x hx⟩
  · rw [fm.2 6 (by decide) (by decide), hs_k (by decide), hs_o (by decide), hs_k (by decide), hs_s]; rfl
  · rw [fm.2 15 (by decide) (by decide), hs_k (by decide), hs_o (by decide), hs_s]; rfl
  · rw [fm.1 370 (by decide), hs_O (by decide), hs_s]; rfl
