/-! apply, both -/
def Rfil (R : Nat → Int) (o : Nat) (L : List Int) : Nat → Int := fun i => if i = o then (L.length : Int) else if o + 1 ≤ i ∧ i < o + 1 + L.length then L.getD (i - (o + 1)) 0 else R i
def Tfil (s : jH) (o : Nat) (L : List Int) : jH := hw s 390 (Rfil (s 390) o L)
theorem Ag.fil {s s' : jH} (h : Ag s s') (o : Nat) (L : List Int) : Ag (Tfil s o L) (Tfil s' o L) := by
  unfold Tfil
  rw [h 390 (by decide)]
  exact h.w1 rfl
theorem Tfil_S {s : jH} {o n : Nat} {L : List Int} (h : L.length < n) : Stf s (Tfil s o L) o n := by
  refine ⟨fun x hx => hw_o hx, fun i hi => ?_⟩
  rw [Tfil, hw_s, Rfil, if_neg (by omega), if_neg (by omega)]
theorem Tfil_0 {s : jH} {o : Nat} {L : List Int} : Tfil s o L 390 o = (L.length : Int) := by rw [Tfil, hw_s, Rfil, if_pos rfl]
theorem Tfil_1 {s : jH} {o i : Nat} {L : List Int} (h : i < L.length) : Tfil s o L 390 (o + 1 + i) = L.getD i 0 := by
  rw [Tfil, hw_s, Rfil, if_neg (by omega), if_pos (by omega)]
  congr 1
  omega
def Tpg (s : jH) (a b : Int) : jH := hs (hs s 388 48 a) 388 49 b
theorem Ag.pg {s s' : jH} (h : Ag s s') (a b : Int) : Ag (Tpg s a b) (Tpg s' a b) := (h.s1 rfl).s1 rfl
def apU (R : Nat → Int) (k : Int) : jH := pgT (rG (slL R k)) (R 4) (rNs (slL R k)).toNat (2 * (rNs (slL R k)).toNat)
def apC (R : Nat → Int) (k : Int) : List Int := coL (rG (slL R k)) R (rNs (slL R k)).toNat
def Dapply (s : jH) (k : Int) : Int × jH := if k < 0 ∨ 2 < k then dT s (-1) else if s 390 (200 + 301 * k).toNat = -1 then dT s (-2) else if rdF (slL (s 390) k) true (s 390) ≠ 0 then dT (lat s (rdF (slL (s 390) k) true (s 390))) (-3) else dT (Tpg (Tfil (Trem (lat s 0) 11) 135 (apC (s 390) k)) (apU (s 390) k 1 1) (apU (s 390) k 1 2)) (rNs (slL (s 390) k))
theorem Ag.apply {s s' : jH} (h : Ag s s') (k : Int) : AgD (Dapply s k) (Dapply s' k) := by
  unfold Dapply
  rw [h 390 (by decide)]
  split
  · exact h.d _
  · split
    · exact h.d _
    · split
      · exact (h.lat _).d _
      · exact ((((h.lat _).rem 11).fil _ _).pg _ _).d _
set_option maxRecDepth 20000 in
set_option maxHeartbeats 1000000 in
theorem k_ld_A (l : Launch) (h : jH) (fr : Int) (P : Option Value → jH → Prop) (hx : ∀ mem, ((∀ q, q < 8 → mem 361 q = 0) ∧ ∀ x, x ≠ 361 → mem x = h x) → jT l 22 39 [some (.ref 356), some (.ref 339), some (.int (jI (fr))), some (.int (jI (8))), none, none, none] [] mem P) : ∀ (m : Nat) (q : Nat) (mem : jH), 8 - q < m → (q ≤ 8 ∧ (∀ p, p < q → mem 361 p = 0) ∧ ∀ x, x ≠ 361 → mem x = h x) → jT l 22 17 [some (.ref 356), some (.ref 339), some (.int (jI (fr))), some (.int (jI ((q : Int)))), none, none, none] [] mem P := by
  intro m
  induction m with
  | zero => intro q mem hk; omega
  | succ m ih =>
    intro q mem hk hi
    obtain ⟨i0, i1, fr9⟩ := hi
    refine tl_iload_n rfl rfl ?_
    refine tl_aload_n rfl rfl ?_
    refine tl_getr (c := 1) (k9 := 10) (b := 361) rfl rfl rfl rfl ?_
    refine tl_alen (n := 8) rfl (Or.inl rfl) rfl ?_
    refine tl_icmp_ge (tgt := 39) rfl rfl ⟨by omega, by omega⟩ ⟨by omega, by omega⟩ (fun c1 => ?_) (fun c1 => ?_)
    · skip
      show jT _ _ 39 _ _ _ _
      -- leaf 0 at 39
      have e : q = 8 := by omega
      subst e
      exact hx mem ⟨i1, fr9⟩
    · show jT _ _ 26 _ _ _ _
      refine tl_aload_n rfl rfl ?_
      show jT _ _ 27 _ _ _ _
      refine tl_getr (c := 1) (k9 := 10) (b := 361) rfl rfl rfl rfl ?_
      refine tl_iload_n rfl rfl ?_
      refine tl_iconst rfl ?_
      refine tl_iast (n := 8) rfl rfl rfl (by omega) (by omega) ?_
      rw [Int.toNat_natCast]
      refine tl_iinc rfl rfl rfl ?_
      refine tl_goto (tgt := 17) rfl rfl ?_
      show jT _ _ 17 _ _ _ _
      -- leaf 1 at 17
      refine ih (q + 1) _ (by omega) ⟨by omega, fun p hp => ?_, fun x hx9 => by rw [hs_O hx9]; exact fr9 x hx9⟩
      by_cases c : p = q
      · subst c; rw [hs_s]
      · rw [hs_k c]; exact i1 p (by omega)
set_option maxRecDepth 20000 in
set_option maxHeartbeats 1000000 in
theorem k_ld_B (l : Launch) (h g : jH) (N : Nat) (fr : Int) (f1 : 1 ≤ fr ∧ fr ≤ 6) (hg : OG h 345 346 347 g N) (hv : OGv g N) (ps : Nat) (ps2 : ps < 2) (P : Option Value → jH → Prop) (hx : ∀ mem t y6, (0 ≤ t ∧ t ≤ ((ps + 1 : Nat) : Int) * 64) → PGK mem (pgT g fr N (ps * N + N)) t → ((∀ x, x ≠ 356 → x ≠ 361 → mem x = h x) ∧ ∀ q, q < 4 → mem 356 q = h 356 q) → jT l 22 102 [some (.ref 356), some (.ref 339), some (.int (jI (fr))), some (.int (jI (t))), some (.int (jI ((ps : Int)))), some (.int (jI ((N : Int)))), y6] [] mem P) : ∀ (m : Nat) (k : Nat) (t : Int) (mem : jH) (y6 : Option Value), N - k < m → (k ≤ N ∧ (0 ≤ t ∧ t ≤ (ps : Int) * 64 + k) ∧ PGK mem (pgT g fr N (ps * N + k)) t ∧ (∀ x, x ≠ 356 → x ≠ 361 → mem x = h x) ∧ ∀ q, q < 4 → mem 356 q = h 356 q) → jT l 22 53 [some (.ref 356), some (.ref 339), some (.int (jI (fr))), some (.int (jI (t))), some (.int (jI ((ps : Int)))), some (.int (jI ((k : Int)))), y6] [] mem P := by
  have n64 := hv.1
  intro m
  induction m with
  | zero => intro k t mem y6 hk; omega
  | succ m ih =>
    intro k t mem y6 hk hi
    obtain ⟨i0, tb, k9, fr9⟩ := hi
    have e4 : mem 345 2 = (N : Int) := by rw [fr9.1 345 (by decide) (by decide)]; exact hg.1
    have im : k < N → (ps * N + k) % N = k := fun hk => by rw [Nat.mul_comm, Nat.mul_add_mod, Nat.mod_eq_of_lt hk]
    have kf : N ≤ k ∨ (k < N ∧ mem 346 k = g 0 k ∧ -1 ≤ g 0 k ∧ g 0 k ≤ 63) := by
      by_cases c : k < N
      · have a := (hv.2 k c).1
        exact Or.inr ⟨c, by rw [fr9.1 346 (by decide) (by decide)]; exact (hg.2 k c).1, a.1, a.2⟩
      · exact Or.inl (by omega)
    refine tl_iload rfl rfl ?_
    refine tl_aload_n rfl rfl ?_
    refine tl_getr (c := 6) (k9 := 10) (b := 345) rfl rfl rfl rfl ?_
    refine tl_geti (c := 3) (k9 := 2) rfl rfl rfl ?_
    rw [e4]
    refine tl_icmp_ge (tgt := 102) rfl rfl ⟨by omega, by omega⟩ ⟨by omega, by omega⟩ (fun c1 => ?_) (fun c1 => ?_)
    · skip
      show jT _ _ 102 _ _ _ _
      -- leaf 0 at 102
      have e : k = N := by omega
      subst e
      exact hx mem t _ ⟨by omega, by omega⟩ k9 fr9
    · show jT _ _ 65 _ _ _ _
      refine tl_aload_n rfl rfl ?_
      show jT _ _ 66 _ _ _ _
      refine tl_getr (c := 6) (k9 := 10) (b := 345) rfl rfl rfl rfl ?_
      refine tl_iload rfl rfl ?_
      refine tl_v1i (c9 := 3) (c_Or_placeAt l Or345 mem (k : Int) ⟨by omega, by omega⟩ (by omega) (by omega)) rfl rfl rfl rfl rfl (Nat.le_of_ble_eq_true rfl) (fun z1 h1 p1 => ?_)
      obtain ⟨q1, p1⟩ := p1
      have q1 := q1.symm
      subst q1
      rw [if_pos (by omega), Int.toNat_natCast, show mem 346 k = g 0 k by omega] at p1
      subst p1
      refine tl_istore rfl (Nat.le_of_ble_eq_true rfl) rfl ?_
      refine tl_iload rfl rfl ?_
      refine tl_iconst rfl ?_
      refine tl_icmp_eq (tgt := 96) rfl rfl ⟨by omega, by omega⟩ ⟨by omega, by omega⟩ (fun c2 => ?_) (fun c2 => ?_)
      · skip
        show jT _ _ 96 _ _ _ _
        refine tl_iinc rfl rfl rfl ?_
        refine tl_goto (tgt := 53) rfl rfl ?_
        show jT _ _ 53 _ _ _ _
        -- leaf 1 at 53
        have e : pgT g fr N ((ps * N + k) + 1) = pgT g fr N (ps * N + k) := pgT_n (by rw [im (by omega)]; omega)
        rw [Nat.add_assoc] at e
        exact ih (k + 1) t mem _ (by omega) ⟨by omega, ⟨by omega, by omega⟩, by rw [e]; exact k9, fr9⟩
      · show jT _ _ 82 _ _ _ _
        have I9 := pgT_I (g := g) (fr := fr) (N := N) f1 hv (by omega) (ps * N + k)
        have ib : (((ps * N + k) : Nat) : Int) ≤ 200 := by rcases (show ps = 0 ∨ ps = 1 by omega) with e | e <;> rw [e] <;> omega
        refine tl_iinc rfl rfl rfl ?_
        refine tl_aload_n rfl rfl ?_
        refine tl_iload rfl rfl ?_
        refine tl_bipush rfl rfl ?_
        refine tl_idiv rfl (by omega) (by omega) (by omega) (by omega) ?_
        rw [show g 0 k / 8 = ((g 0 k / 8).toNat : Int) by omega]
        show jT _ _ 91 _ _ _ _
        refine tl_iload_n rfl rfl ?_
        refine tl_iload_n rfl rfl ?_
        refine tl_v3v (c9 := 1) (k_readPage l mem (pgT g fr N (ps * N + k)) t fr I9.1 k9 ⟨by omega, by omega⟩ (g 0 k / 8).toNat (by omega) ⟨I9.2.1, by have := I9.2.2; omega⟩) rfl rfl rfl rfl rfl (Nat.le_of_ble_eq_true rfl) (fun h2 p2 => ?_)
        obtain ⟨k2, f2⟩ := p2
        refine tl_iinc rfl rfl rfl ?_
        refine tl_goto (tgt := 53) rfl rfl ?_
        show jT _ _ 53 _ _ _ _
        -- leaf 2 at 53
        have e : pgT g fr N ((ps * N + k) + 1) = pg1 fr (g 0 k / 8) (pgT g fr N (ps * N + k)) := by
          have := pgT_y (g := g) (fr := fr) (N := N) (i := (ps * N + k)) (by rw [im (by omega)]; omega)
          rw [im (by omega)] at this
          exact this
        rw [Nat.add_assoc] at e
        rw [show ((g 0 k / 8).toNat : Int) = g 0 k / 8 by omega] at k2
        exact ih (k + 1) (t + 1) h2 _ (by omega) ⟨by omega, ⟨by omega, by omega⟩, by rw [e]; exact k2, fun x x1 x2 => by rw [f2.1 x x1 x2]; exact fr9.1 x x1 x2, fun q hq => by rw [f2.2 q hq]; exact fr9.2 q hq⟩
set_option maxRecDepth 20000 in
set_option maxHeartbeats 1000000 in
theorem k_load (l : Launch) (h g : jH) (N : Nat) (fr : Int) (f1 : 1 ≤ fr ∧ fr ≤ 6) (hg : OG h 345 346 347 g N) (hv : OGv g N) : cV l 22 [.ref 356, .ref 339, .int (jI fr)] h (fun h' => (h' 356 4 = pgT g fr N (2 * N) 1 1 ∧ h' 356 5 = pgT g fr N (2 * N) 1 2) ∧ (∀ x, x ≠ 356 → x ≠ 361 → h' x = h x) ∧ ∀ q, q < 4 → h' 356 q = h 356 q) := by
  refine cV.of rfl rfl ?_
  refine tl_aload_n rfl rfl ?_
  refine tl_iconst rfl ?_
  refine tl_puti (c := 1) (k9 := 4) rfl rfl rfl rfl ?_
  refine tl_aload_n rfl rfl ?_
  refine tl_iconst rfl ?_
  refine tl_puti (c := 1) (k9 := 5) rfl rfl rfl rfl ?_
  show jT _ _ 10 _ _ _ _
  refine tl_aload_n rfl rfl ?_
  refine tl_iconst rfl ?_
  refine tl_puti (c := 1) (k9 := 11) rfl rfl rfl rfl ?_
  refine tl_iconst rfl ?_
  refine tl_istore_n rfl (Nat.le_of_ble_eq_true rfl) rfl ?_
  show jT _ _ 17 _ _ _ _
  -- leaf 0 at 17
  refine k_ld_A l _ fr _ (fun mem hi => ?_) _ 0 _ (Nat.lt_succ_self _) ⟨Nat.zero_le _, fun q hq => absurd hq (by omega), fun _ _ => rfl⟩
  obtain ⟨i1, fr9⟩ := hi
  have K0 : PGK mem (pgT g fr N 0) 0 := by
    refine ⟨⟨?_, ?_, ?_⟩, fun q hq => Or.inl ⟨i1 q hq, fun i hi => absurd hi (by show ¬ (i : Int) < 0; omega)⟩, fun i j _ hj => absurd hj (by show ¬ (j : Int) < 0; omega)⟩
    · rw [fr9 356 (by decide), hs_s]; rfl
    · rw [fr9 356 (by decide), hs_k (by decide), hs_k (by decide), hs_s]; rfl
    · rw [fr9 356 (by decide), hs_k (by decide), hs_s]; rfl
  have F0 : (∀ x, x ≠ 356 → x ≠ 361 → mem x = h x) ∧ ∀ q, q < 4 → mem 356 q = h 356 q := ⟨fun x x1 x2 => by rw [fr9 x x2, hs_O x1, hs_O x1, hs_O x1], fun q hq => by rw [fr9 356 (by decide), hs_k (by omega), hs_k (by omega), hs_k (by omega)]⟩
  refine tl_iconst rfl ?_
  refine tl_istore_n rfl (Nat.le_of_ble_eq_true rfl) rfl ?_
  refine tl_iconst rfl ?_
  refine tl_istore rfl (Nat.le_of_ble_eq_true rfl) rfl ?_
  refine tl_iload rfl rfl ?_
  refine tl_iconst rfl ?_
  show jT _ _ 47 _ _ _ _
  refine tl_icmp_ge (tgt := 108) rfl rfl ⟨by omega, by omega⟩ ⟨by omega, by omega⟩ (fun c1 => ?_) (fun c1 => ?_)
  · skip
    exfalso; omega
  · show jT _ _ 50 _ _ _ _
    refine tl_iconst rfl ?_
    refine tl_istore rfl (Nat.le_of_ble_eq_true rfl) rfl ?_
    show jT _ _ 53 _ _ _ _
    -- leaf 0 at 53
    refine k_ld_B l h g N fr f1 hg hv 0 (by decide) _ (fun m1 t1 y1 tb1 k1 fr1 => ?_) _ 0 0 mem _ (Nat.lt_succ_self _) ⟨Nat.zero_le _, ⟨by omega, by omega⟩, by rw [Nat.zero_mul, Nat.add_zero]; exact K0, F0⟩
    refine tl_iinc rfl rfl rfl ?_
    refine tl_goto (tgt := 44) rfl rfl ?_
    refine tl_iload rfl rfl ?_
    refine tl_iconst rfl ?_
    refine tl_icmp_ge (tgt := 108) rfl rfl ⟨by omega, by omega⟩ ⟨by omega, by omega⟩ (fun c1 => ?_) (fun c1 => ?_)
    · skip
      exfalso; omega
    · show jT _ _ 50 _ _ _ _
      refine tl_iconst rfl ?_
      show jT _ _ 51 _ _ _ _
      refine tl_istore rfl (Nat.le_of_ble_eq_true rfl) rfl ?_
      show jT _ _ 53 _ _ _ _
      -- leaf 0 at 53
      refine k_ld_B l h g N fr f1 hg hv 1 (by decide) _ (fun m2 t2 y2 tb2 k2 fr2 => ?_) _ 0 t1 m1 _ (Nat.lt_succ_self _) ⟨Nat.zero_le _, ⟨by omega, by omega⟩, by rw [Nat.zero_mul, Nat.zero_add] at k1; rw [Nat.one_mul, Nat.add_zero]; exact k1, fr1⟩
      rw [show 1 * N + N = 2 * N by omega] at k2
      refine tl_iinc rfl rfl rfl ?_
      refine tl_goto (tgt := 44) rfl rfl ?_
      refine tl_iload rfl rfl ?_
      refine tl_iconst rfl ?_
      refine tl_icmp_ge (tgt := 108) rfl rfl ⟨by omega, by omega⟩ ⟨by omega, by omega⟩ (fun c1 => ?_) (fun c1 => ?_)
      · skip
        refine tl_ret rfl ?_
        -- leaf 0 at 108
        exact ⟨rfl, ⟨k2.1.2.1, k2.1.2.2⟩, fr2⟩
      · show jT _ _ 50 _ _ _ _
        exfalso; omega
set_option maxRecDepth 20000 in
set_option maxHeartbeats 1000000 in
theorem k_apply (l : Launch) (h s : jH) (t k : Int) (hI : IC h s t) (hk : jr k) : cI l 154 [.ref 0, .int (jI k)] h (PK h t (Dapply s k)) := by
  have k1 := hk.1
  have k2 := hk.2
  have te := hI.2.2.2.1 4 (by decide)
  have te2 : 1 ≤ s 390 4 ∧ s 390 4 ≤ 6 := te.2
  refine cI.of rfl rfl ?_
  refine tl_aload_n rfl rfl ?_
  refine tl_iload_n rfl rfl ?_
  refine tl_v1i (c9 := 11) (k_readFA l _ s t k hI ⟨by omega, by omega⟩) rfl rfl rfl rfl rfl (Nat.le_of_ble_eq_true rfl) (fun z1 h1 p1 => ?_)
  obtain ⟨e1, i1, g1, f1, f0⟩ := p1
  have rc := rfA_c (s 390) k
  have rb := rfA_b (s 390) k
  subst e1
  refine tl_istore_n rfl (Nat.le_of_ble_eq_true rfl) rfl ?_
  refine tl_iload_n rfl rfl ?_
  refine tl_if_eq (tgt := 16) rfl rfl ⟨by omega, by omega⟩ (fun c1 => ?_) (fun c1 => ?_)
  · skip
    have z0 : rfA (s 390) k = 0 := by omega
    have zr : rdF (slL (s 390) k) true (s 390) = 0 := by omega
    have G1 := g1 z0
    rw [rfS_l (by omega) (by omega), zr] at i1
    have sb1 := hI.sok.b (k := k) (by omega) (by omega) (by omega)
    have A := rdA sb1.1 sb1.2.2.2 zr
    have An := A.2.2.1
    have Af := A.2.2.2.2.2.2 rfl
    have Av := A.2.2.2.2.1
    have ok := hI.ok
    show jT _ _ 16 _ _ _ _
    refine tl_aload_n rfl rfl ?_
    refine tl_bipush rfl rfl ?_
    refine tl_v1v (c9 := 11) (k_keep l h1 (lat s 0) t 11 i1 (by decide) (by decide)) rfl rfl rfl rfl rfl (Nat.le_of_ble_eq_true rfl) (fun h2 p2 => ?_)
    obtain ⟨i2, f2⟩ := p2
    have co2 : RL h2 348 349 (apC (s 390) k) := G1.2.of (f2 348 (by omega)) (f2 349 (by omega))
    have cl : (apC (s 390) k).length = (rNs (slL (s 390) k)).toNat := coL_len _
    have cB : LB (apC (s 390) k) := coL_B Af.2.2.1 _ (Nat.le_refl _)
    refine tl_aload_n rfl rfl ?_
    refine tl_getr (c := 11) (k9 := 0) (b := 1) rfl rfl rfl rfl ?_
    refine tl_getr (c := 9) (k9 := 2) (b := 6) rfl rfl rfl rfl ?_
    refine tl_aload_n rfl rfl ?_
    show jT _ _ 30 _ _ _ _
    refine tl_getr (c := 11) (k9 := 13) (b := 339) rfl rfl rfl rfl ?_
    refine tl_getr (c := 6) (k9 := 11) (b := 348) rfl rfl rfl rfl ?_
    refine tl_v1v (c9 := 8) (k_store_f l h2 (Trem (lat s 0) 11) (Tfil (Trem (lat s 0) 11) 135 (apC (s 390) k)) t i2 2 (by decide) R348 ((apC (s 390) k).length : Int) (fun i => (apC (s 390) k).getD i 0) co2.1 (by omega) (by omega) (by omega) (fun i hi => ⟨co2.2 i (by omega), cB.gd (by omega)⟩) (fun w => absurd w (by decide)) (Tfil_S (by omega)) Tfil_0 (fun i hi => Tfil_1 (by omega))) rfl rfl rfl rfl rfl (Nat.le_of_ble_eq_true rfl) (fun h3 p3 => ?_)
    obtain ⟨i3, b3, f3⟩ := p3
    change h3 6 1 = _ at b3
    change ∀ x, x ≠ 6 → x ≠ 7 → h3 x = h2 x at f3
    refine tl_aload_n rfl rfl ?_
    refine tl_getr (c := 11) (k9 := 14) (b := 356) rfl rfl rfl rfl ?_
    refine tl_aload_n rfl rfl ?_
    refine tl_getr (c := 11) (k9 := 13) (b := 339) rfl rfl rfl rfl ?_
    show jT _ _ 47 _ _ _ _
    refine tl_aload_n rfl rfl ?_
    refine tl_getr (c := 11) (k9 := 6) (b := 311) rfl rfl rfl rfl ?_
    refine tl_iconst rfl ?_
    refine tl_iald (n := 5) rfl rfl rfl (by omega) (by omega) ?_
    rw [show Int.toNat 4 = 4 from rfl]
    rw [f3 311 (by decide) (by decide), f2 311 (by omega), f1 311 (by decide) (by decide), te.1]
    refine tl_v2v (c9 := 1) (k_load l h3 (rG (slL (s 390) k)) (rNs (slL (s 390) k)).toNat (s 390 4) te2 (G1.1.2.2.1.of (by rw [f3 345 (by decide) (by decide), f2 345 (by omega)]) (by rw [f3 346 (by decide) (by decide), f2 346 (by omega)]) (by rw [f3 347 (by decide) (by decide), f2 347 (by omega)])) Av) rfl rfl rfl rfl rfl (Nat.le_of_ble_eq_true rfl) (fun h4 p4 => ?_)
    obtain ⟨e4, f4⟩ := p4
    refine tl_aload_n rfl rfl ?_
    refine tl_aload_n rfl rfl ?_
    show jT _ _ 58 _ _ _ _
    refine tl_getr (c := 11) (k9 := 0) (b := 1) rfl rfl rfl rfl ?_
    refine tl_getr (c := 9) (k9 := 2) (b := 6) rfl rfl rfl rfl ?_
    refine tl_geti (c := 8) (k9 := 1) rfl rfl rfl ?_
    rw [f4.1 6 (by decide) (by decide), b3]
    refine tl_v1i (c9 := 11) (k_accept l _ _) rfl rfl rfl rfl rfl (Nat.le_of_ble_eq_true rfl) (fun za ha pa => ?_)
    obtain ⟨rfl, rfl⟩ := pa
    refine tl_iret rfl ?_
    -- leaf 0 at 70
    refine ⟨_, rfl, ?_⟩
    rw [Dapply]
    repeat (first | rw [if_pos (by omega)] | rw [if_neg (by omega)])
    rw [show ((apC (s 390) k).length : Int) = rNs (slL (s 390) k) by omega]
    have i4 : IC h4 (Tpg (Tfil (Trem (lat s 0) 11) 135 (apC (s 390) k)) (apU (s 390) k 1 1) (apU (s 390) k 1 2)) t := by
      have n9 := i3.n45
      have q8 : ∀ q, q ≠ 48 → q ≠ 49 → Tpg (Tfil (Trem (lat s 0) 11) 135 (apC (s 390) k)) (apU (s 390) k 1 1) (apU (s 390) k 1 2) 388 q = Tfil (Trem (lat s 0) 11) 135 (apC (s 390) k) 388 q := fun q a b => by rw [Tpg, hs_k b, hs_k a]
      have uI := fun (n0 : 0 < (rNs (slL (s 390) k)).toNat) => pgT_I (g := rG (slL (s 390) k)) (fr := s 390 4) (N := (rNs (slL (s 390) k)).toNat) te2 Av n0 (2 * (rNs (slL (s 390) k)).toNat)
      have ub : (0 ≤ apU (s 390) k 1 1 ∧ apU (s 390) k 1 1 ≤ 128) ∧ (0 ≤ apU (s 390) k 1 2 ∧ apU (s 390) k 1 2 ≤ 6) := by
        by_cases c : 0 < (rNs (slL (s 390) k)).toNat
        · have a := uI c
          have a2 := a.1.2.1
          have a3 := a.1.2.2.1
          have a4 := a.2
          refine ⟨⟨a4.1, Int.le_trans a4.2 (by omega)⟩, Int.le_trans a2.1 a3.1, Int.le_trans a3.2 te2.2⟩
        · have e : apU (s 390) k = fun _ _ => 0 := by
            unfold apU
            rw [show (rNs (slL (s 390) k)).toNat = 0 by omega]; rfl
          rw [e]; exact ⟨⟨by decide, by decide⟩, by decide, by decide⟩
      refine i3.nums (fun x a b => f4.1 x (by omega) (by omega)) (fun q hq => by rw [f4.1 0 (by decide) (by decide)]) (fun x a b => by rw [Tpg, hs_O (by omega), hs_O (by omega)]) (fun q hq => q8 q (by omega) (by omega)) ?_ ⟨?_, ?_⟩ ⟨?_, ?_⟩ ?_ ?_
      · rw [f4.1 0 (by decide) (by decide), q8 45 (by decide) (by decide)]; exact n9.1
      · rw [e4.1, Tpg, hs_k (by decide), hs_s]; rfl
      · rw [e4.1]; show jr (apU (s 390) k 1 1); exact ⟨by omega, by omega⟩
      · rw [e4.2, Tpg, hs_s]; rfl
      · rw [e4.2]; show jr (apU (s 390) k 1 2); exact ⟨by omega, by omega⟩
      · rw [f4.1 362 (by decide) (by decide), q8 59 (by decide) (by decide)]; exact n9.2.2.2.1
      · rw [f4.1 362 (by decide) (by decide), q8 74 (by decide) (by decide)]; exact n9.2.2.2.2
    exact PK.acc i4 (by omega) (fun x hx => by rw [f4.1 x (by omega) (by omega), f3 x (by omega) (by omega), f2 x (by omega), f1 x (by omega) (by omega)])
  · show jT _ _ 10 _ _ _ _
    refine tl_aload_n rfl rfl ?_
    refine tl_iload_n rfl rfl ?_
    show jT _ _ 12 _ _ _ _
    refine tl_v1i (c9 := 11) (k_refuse l _ _ (by omega) (by omega)) rfl rfl rfl rfl rfl (Nat.le_of_ble_eq_true rfl) (fun zr hr pr => ?_)
    obtain ⟨rfl, rfl⟩ := pr
    refine tl_iret rfl ?_
    -- leaf 1 at 15
    refine ⟨_, rfl, ?_⟩
    rcases rc with rc | ⟨rk, rc | ⟨rd, rc | rc⟩⟩
    · rw [Dapply, if_pos (by omega)]
      rw [rfS_n (Or.inl (by omega))] at i1
      rw [rc.1]
      exact (PK.ref i1 (by omega) (by omega)).from9 (fun x hx => f1 x (by omega) (by omega))
    · rw [Dapply, if_neg (by omega), if_pos (by omega)]
      rw [rfS_n (Or.inr (by omega))] at i1
      rw [rc.1]
      exact (PK.ref i1 (by omega) (by omega)).from9 (fun x hx => f1 x (by omega) (by omega))
    · rw [Dapply, if_neg (by omega), if_neg (by omega), if_pos rc.2]
      rw [rfS_l rk rd] at i1
      rw [rc.1]
      exact (PK.ref i1 (by omega) (by omega)).from9 (fun x hx => f1 x (by omega) (by omega))
    · exfalso; omega
