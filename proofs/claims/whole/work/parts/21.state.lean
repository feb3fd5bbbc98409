/-! State: the shape of one, copy; the class's keep -/
def StS (b : Nat) : Prop := sk b = 9 ∧ (∀ f, f < 3 → sr b f = b + 1 + 2 * f ∧ RowS (b + 1 + 2 * f) (b + 1 + 2 * f + 1) 64) ∧ (sr b 3 = b + 7 ∧ sk (b + 7) = 16 ∧ sl (b + 7) = 3) ∧ (∀ k, k < 3 → sr (b + 7) k = b + 8 + 2 * k ∧ RowS (b + 8 + 2 * k) (b + 8 + 2 * k + 1) 300) ∧ (sr b 4 = b + 14 ∧ sk (b + 14) = 15 ∧ sl (b + 14) = 64) ∧ (∀ q, q < 3 → sr b (5 + q) = b + 15 + q ∧ sk (b + 15 + q) = 13 ∧ sl (b + 15 + q) = 64)
theorem StS_now : StS 1 := by unfold StS RowS; decide
theorem StS_past : ∀ k, k < 16 → StS (20 + 18 * k) := by
  intro k hk
  match k, hk with
  | 0, _ => unfold StS RowS; decide
  | 1, _ => unfold StS RowS; decide
  | 2, _ => unfold StS RowS; decide
  | 3, _ => unfold StS RowS; decide
  | 4, _ => unfold StS RowS; decide
  | 5, _ => unfold StS RowS; decide
  | 6, _ => unfold StS RowS; decide
  | 7, _ => unfold StS RowS; decide
  | 8, _ => unfold StS RowS; decide
  | 9, _ => unfold StS RowS; decide
  | 10, _ => unfold StS RowS; decide
  | 11, _ => unfold StS RowS; decide
  | 12, _ => unfold StS RowS; decide
  | 13, _ => unfold StS RowS; decide
  | 14, _ => unfold StS RowS; decide
  | 15, _ => unfold StS RowS; decide
  | n + 16, h9 => exact absurd h9 (by omega)
theorem sr19 : ∀ k, k < 16 → sr 19 k = 20 + 18 * k := by decide
def cpA (M : jH) (x y : Nat) : jH := hw M x (va_cpy (M y) (M x) (Int.toNat 0) (Int.toNat 0) (Int.toNat 64))
theorem cpA_o {M : jH} {x y z : Nat} (hz : z ≠ x) : cpA M x y z = M z := hw_o hz
theorem cpA_s {M : jH} {x y i : Nat} (hi : i < 64) : cpA M x y x i = M y i := by
  rw [cpA, hw_s, va_cpy, if_pos ⟨Nat.zero_le _, by show i < 0 + 64; omega⟩]
  show M y (0 + (i - 0)) = M y i
  congr 1
  omega
/-- what a copied row is -/
theorem c_copy_f (l : Launch) {r r2 : Nat} (hS : RowS r (r + 1) 64) (hS2 : RowS r2 (r2 + 1) 64) (h : jH) (R : Nat → Int) (p : Nat) (hF : RSf h r2 R p) : cV l 106 [.ref r, .ref r2] h (fun h' => RSf h' r R p ∧ ∀ x, x ≠ r → x ≠ r + 1 → h' x = h x) := by
  obtain ⟨f1, f2, f3, f4⟩ := hF
  refine (c_Row_copy l hS hS2 h (by omega) (by omega)).mono (fun h' q => ?_)
  have e : min (h r2 1) ((64 : Nat) : Int) = R p := by omega
  rw [e] at q
  subst q
  refine ⟨⟨?_, f2, f3, fun i hi => ?_⟩, fun x h1 h2 => ?_⟩
  · rw [hw_o hS.ne, hs_s]
  · rw [hw_s, va_cpy, if_pos (by omega)]
    have := f4 i hi
    rw [show 0 + (i - 0) = i by omega]
    exact this
  · rw [hw_o h2]
    funext q
    exact hs_o h1
theorem c_copy_s (l : Launch) {r r2 : Nat} (hS : RowS r (r + 1) 300) (hS2 : RowS r2 (r2 + 1) 300) (h : jH) (R : Nat → Int) (p : Nat) (hF : RSs h r2 R p) : cV l 106 [.ref r, .ref r2] h (fun h' => RSs h' r R p ∧ ∀ x, x ≠ r → x ≠ r + 1 → h' x = h x) := by
  obtain ⟨f1, f2, f4⟩ := hF
  have g1 : 0 ≤ h r2 1 ∧ h r2 1 ≤ 300 := by rw [f1]; split <;> omega
  refine (c_Row_copy l hS hS2 h g1.1 g1.2).mono (fun h' q => ?_)
  have e : min (h r2 1) ((300 : Nat) : Int) = h r2 1 := by omega
  rw [e] at q
  subst q
  refine ⟨⟨?_, f2, fun i hi => ?_⟩, fun x h1 h2 => ?_⟩
  · rw [hw_o hS.ne, hs_s, f1]
  · have h9 : (i : Int) < h r2 1 := by rw [f1]; split <;> omega
    rw [hw_s, va_cpy, if_pos (by omega)]
    have := f4 i hi
    rw [show 0 + (i - 0) = i by omega]
    exact this
  · rw [hw_o h2]
    funext q
    exact hs_o h1
theorem RSf.keep {h h' : jH} {r p : Nat} {R : Nat → Int} (hF : RSf h r R p) (e1 : h' r = h r) (e2 : h' (r + 1) = h (r + 1)) : RSf h' r R p := by
  unfold RSf at *
  rw [e1, e2]
  exact hF
theorem RSs.keep {h h' : jH} {r p : Nat} {R : Nat → Int} (hF : RSs h r R p) (e1 : h' r = h r) (e2 : h' (r + 1) = h (r + 1)) : RSs h' r R p := by
  unfold RSs at *
  rw [e1, e2]
  exact hF
theorem RS.keep {h h' : jH} {b : Nat} {R : Nat → Int} (hF : RS h b R) (e : ∀ x, b ≤ x → x < b + 18 → h' x = h x) : RS h' b R := by
  obtain ⟨a1, a2, a3, a4⟩ := hF
  refine ⟨fun f hf => (a1 f hf).keep (e _ (by omega) (by omega)) (e _ (by omega) (by omega)), fun k hk => (a2 k hk).keep (e _ (by omega) (by omega)) (e _ (by omega) (by omega)), fun i hi => ?_, ?_⟩
  · rw [e _ (by omega) (by omega)]
    exact a3 i hi
  · unfold RSr at *
    rw [e b (by omega) (by omega), e (b + 15) (by omega) (by omega), e (b + 16) (by omega) (by omega), e (b + 17) (by omega) (by omega)]
    exact a4
set_option maxRecDepth 20000 in
set_option maxHeartbeats 2000000 in
theorem k_copy_lp (l : Launch) {b b2 : Nat} (HB : StS b) (HB2 : StS b2) (hd : b + 18 ≤ b2 ∨ b2 + 18 ≤ b) (h : jH) (R : Nat → Int) (hR : RS h b2 R) (P : Option Value → jH → Prop)
    (hx : ∀ h1, (∀ f, f < 3 → RSf h1 (b + 1 + 2 * f) R (5 + 65 * f)) → (∀ k, k < 3 → RSs h1 (b + 8 + 2 * k) R (200 + 301 * k)) → (∀ x, x < b + 1 ∨ b + 14 ≤ x → h1 x = h x) → jT l 111 61 [some (.ref b), some (.ref b2), some (.int (jI ((3 : Nat) : Int)))] [] h1 P) : ∀ (m k : Nat) (h1 : jH), 3 - k < m → k ≤ 3 → (∀ f, f < 3 → RSf h1 (b + 1 + 2 * f) R (5 + 65 * f)) → (∀ q, q < k → RSs h1 (b + 8 + 2 * q) R (200 + 301 * q)) → (∀ x, x < b + 1 ∨ b + 14 ≤ x → h1 x = h x) → jT l 111 35 [some (.ref b), some (.ref b2), some (.int (jI (k : Int)))] [] h1 P := by
  intro m
  induction m with
  | zero => intro k h1 hk; omega
  | succ m ih =>
    intro k h1 hk hkK hf hs9 hfr
    refine tl_iload_n rfl rfl ?_
    refine tl_iconst rfl ?_
    refine tl_icmp_ge (tgt := 61) rfl rfl ⟨by omega, by omega⟩ ⟨by omega, by omega⟩ (fun c1 => ?_) (fun c1 => ?_)
    · skip
      show jT _ _ 61 _ _ _ _
      -- leaf 0 at 61
      have e : k = 3 := by omega
      subst e
      exact hx h1 hf hs9 hfr
    · show jT _ _ 40 _ _ _ _
      refine tl_aload_n rfl rfl ?_
      refine tl_getr (c := 9) (k9 := 3) rfl HB.1 rfl HB.2.2.1.1 ?_
      refine tl_iload_n rfl rfl ?_
      show jT _ _ 45 _ _ _ _
      skip
      refine tl_aald (b := b + 8 + 2 * k) rfl (Or.inl HB.2.2.1.2.1) HB.2.2.1.2.2 (by omega) (by omega) (by rw [Int.toNat_natCast]; exact (HB.2.2.2.1 k (by omega)).1) ?_
      refine tl_aload_n rfl rfl ?_
      refine tl_getr (c := 9) (k9 := 3) rfl HB2.1 rfl HB2.2.2.1.1 ?_
      refine tl_iload_n rfl rfl ?_
      skip
      refine tl_aald (b := b2 + 8 + 2 * k) rfl (Or.inl HB2.2.2.1.2.1) HB2.2.2.1.2.2 (by omega) (by omega) (by rw [Int.toNat_natCast]; exact (HB2.2.2.2.1 k (by omega)).1) ?_
      refine tl_v1v (c9 := 8) (c_copy_s l (HB.2.2.2.1 k (by omega)).2 (HB2.2.2.2.1 k (by omega)).2 h1 R (200 + 301 * k) ((hR.2.1 k (by omega)).keep (hfr _ (by omega)) (hfr _ (by omega)))) rfl rfl rfl (HB.2.2.2.1 k (by omega)).2.1 rfl (Nat.le_of_ble_eq_true rfl) (fun h2 q => ?_)
      obtain ⟨q1, q2⟩ := q
      refine tl_iinc rfl rfl rfl ?_
      show jT _ _ 58 _ _ _ _
      refine tl_goto (tgt := 35) rfl rfl ?_
      show jT _ _ 35 _ _ _ _
      -- leaf 1 at 35
      refine ih (k + 1) h2 (by omega) (by omega) (fun f hf9 => (hf f hf9).keep (q2 _ (by omega) (by omega)) (q2 _ (by omega) (by omega))) (fun q hq => ?_) (fun x hx9 => ?_)
      · rcases Nat.lt_or_ge q k with q9 | q9
        · exact (hs9 q q9).keep (q2 _ (by omega) (by omega)) (q2 _ (by omega) (by omega))
        · have e : q = k := by omega
          subst e
          exact q1
      · rw [q2 x (by omega) (by omega)]
        exact hfr x hx9
set_option maxRecDepth 20000 in
set_option maxHeartbeats 2000000 in
theorem k_copy_end (l : Launch) {b b2 : Nat} (HB : StS b) (HB2 : StS b2) (hd : b + 18 ≤ b2 ∨ b2 + 18 ≤ b) (h h1 : jH) (R : Nat → Int) (hR : RS h b2 R) (hf : ∀ f, f < 3 → RSf h1 (b + 1 + 2 * f) R (5 + 65 * f)) (hs9 : ∀ k, k < 3 → RSs h1 (b + 8 + 2 * k) R (200 + 301 * k)) (hfr : ∀ x, x < b + 1 ∨ b + 14 ≤ x → h1 x = h x) (x0 : Option Value) (P : Option Value → jH → Prop) (hP : ∀ h2, RS h2 b R → (∀ x, x < b ∨ b + 18 ≤ x → h2 x = h x) → P none h2) : jT l 111 61 [some (.ref b), some (.ref b2), x0] [] h1 P := by
  have hz : ∀ i, i < 64 → h1 (b2 + 14) i = 0 ∨ h1 (b2 + 14) i = 1 := fun i hi => by
    have q := hR.2.2.1 i hi
    rw [hfr _ (by omega), q.1]
    exact q.2
  have k14 : sk (b + 14) ≠ sk b := by rw [HB.2.2.2.2.1.2.1, HB.1]; decide
  let m4 := cpA (cpA (cpA (cpA h1 (b + 14) (b2 + 14)) (b + 15) (b2 + 15)) (b + 16) (b2 + 16)) (b + 17) (b2 + 17)
  have e0 : ∀ x, x < b + 14 ∨ b + 18 ≤ x → m4 x = h1 x := fun x hx => by
    show cpA _ _ _ x = _
    rw [cpA_o (by omega), cpA_o (by omega), cpA_o (by omega), cpA_o (by omega)]
  have e14 : ∀ i, i < 64 → m4 (b + 14) i = h1 (b2 + 14) i := fun i hi => by
    show cpA _ _ _ (b + 14) i = _
    rw [cpA_o (by omega), cpA_o (by omega), cpA_o (by omega), cpA_s hi]
  have e15 : ∀ i, i < 64 → m4 (b + 15) i = h1 (b2 + 15) i := fun i hi => by
    show cpA _ _ _ (b + 15) i = _
    rw [cpA_o (by omega), cpA_o (by omega), cpA_s hi, cpA_o (by omega)]
  have e16 : ∀ i, i < 64 → m4 (b + 16) i = h1 (b2 + 16) i := fun i hi => by
    show cpA _ _ _ (b + 16) i = _
    rw [cpA_o (by omega), cpA_s hi, cpA_o (by omega), cpA_o (by omega)]
  have e17 : ∀ i, i < 64 → m4 (b + 17) i = h1 (b2 + 17) i := fun i hi => by
    show cpA _ _ _ (b + 17) i = _
    rw [cpA_s hi, cpA_o (by omega), cpA_o (by omega), cpA_o (by omega)]
  have eb : m4 b2 = h b2 := by rw [e0 b2 (by omega), hfr b2 (by omega)]
  let h2 := hs (hs m4 b 8 (m4 b2 8)) b 9 (hs m4 b 8 (m4 b2 8) b2 9)
  have g0 : ∀ x, x ≠ b → h2 x = m4 x := fun x hx => by
    funext q
    show hs _ _ _ _ x q = _
    rw [hs_o hx, hs_o hx]
  have g8 : h2 b 8 = h b2 8 := by
    show hs _ _ _ _ b 8 = _
    rw [hs_k (by decide), hs_s, eb]
  have g9 : h2 b 9 = h b2 9 := by
    show hs _ _ _ _ b 9 = _
    rw [hs_s, hs_o (by omega), eb]
  obtain ⟨p1, p2, p3, p4⟩ := hR
  have key : P none h2 := by
    refine hP h2 ⟨fun f hf9 => (hf f hf9).keep ?_ ?_, fun k hk9 => (hs9 k hk9).keep ?_ ?_, fun i hi => ?_, ?_⟩ (fun x hx => ?_)
    · rw [g0 _ (by omega), e0 _ (by omega)]
    · rw [g0 _ (by omega), e0 _ (by omega)]
    · rw [g0 _ (by omega), e0 _ (by omega)]
    · rw [g0 _ (by omega), e0 _ (by omega)]
    · rw [g0 _ (by omega), e14 i hi, hfr _ (by omega)]
      exact p3 i hi
    · obtain ⟨r1, r2, r3, r4, r5⟩ := p4
      refine ⟨r1, by rw [g8]; exact r2, by rw [g9]; exact r3, by rw [g8, g9]; exact r4, fun z => ?_⟩
      obtain ⟨s1, s2, s3, s4, s5, s6, s7⟩ := r5 z
      refine ⟨s1, s2, s3, by rw [g8]; exact s4, by rw [g9]; exact s5, s6, fun i hi => ?_⟩
      have hi64 : i < 64 := by omega
      rw [g0 (b + 15) (by omega), g0 (b + 16) (by omega), g0 (b + 17) (by omega), e15 i hi64, e16 i hi64, e17 i hi64, hfr (b2 + 15) (by omega), hfr (b2 + 16) (by omega), hfr (b2 + 17) (by omega)]
      exact s7 i hi
    · rw [g0 x (by omega), e0 x (by omega), hfr x (by omega)]
  refine tl_aload_n rfl rfl ?_
  refine tl_getr (c := 9) (k9 := 4) rfl HB2.1 rfl HB2.2.2.2.2.1.1 ?_
  refine tl_iconst rfl ?_
  refine tl_aload_n rfl rfl ?_
  refine tl_getr (c := 9) (k9 := 4) rfl HB.1 rfl HB.2.2.2.2.1.1 ?_
  refine tl_iconst rfl ?_
  show jT _ _ 71 _ _ _ _
  refine tl_bipush rfl rfl ?_
  refine tl_copyz rfl HB2.2.2.2.2.1.2.1 HB.2.2.2.2.1.2.1 (fun i hi => by rw [show Int.toNat 0 + i = i by omega]; exact hz i (by omega)) HB2.2.2.2.2.1.2.2 HB.2.2.2.2.1.2.2 (by omega) (by omega) (by omega) (by omega) (by omega) (Nat.le_of_ble_eq_true rfl) rfl ?_
  refine tl_aload_n rfl rfl ?_
  refine tl_getr (c := 9) (k9 := 5) rfl HB2.1 rfl (HB2.2.2.2.2.2 0 (by decide)).1 ?_
  refine tl_iconst rfl ?_
  refine tl_aload_n rfl rfl ?_
  refine tl_getr (c := 9) (k9 := 5) rfl HB.1 rfl (HB.2.2.2.2.2 0 (by decide)).1 ?_
  show jT _ _ 85 _ _ _ _
  refine tl_iconst rfl ?_
  refine tl_bipush rfl rfl ?_
  refine tl_copy rfl (HB2.2.2.2.2.2 0 (by decide)).2.1 (HB.2.2.2.2.2 0 (by decide)).2.1 (HB2.2.2.2.2.2 0 (by decide)).2.2 (HB.2.2.2.2.2 0 (by decide)).2.2 (by omega) (by omega) (by omega) (by omega) (by omega) (Nat.le_of_ble_eq_true rfl) rfl ?_
  refine tl_aload_n rfl rfl ?_
  refine tl_getr (c := 9) (k9 := 6) rfl HB2.1 rfl (HB2.2.2.2.2.2 1 (by decide)).1 ?_
  refine tl_iconst rfl ?_
  refine tl_aload_n rfl rfl ?_
  show jT _ _ 97 _ _ _ _
  refine tl_getr (c := 9) (k9 := 6) rfl HB.1 rfl (HB.2.2.2.2.2 1 (by decide)).1 ?_
  refine tl_iconst rfl ?_
  refine tl_bipush rfl rfl ?_
  refine tl_copy rfl (HB2.2.2.2.2.2 1 (by decide)).2.1 (HB.2.2.2.2.2 1 (by decide)).2.1 (HB2.2.2.2.2.2 1 (by decide)).2.2 (HB.2.2.2.2.2 1 (by decide)).2.2 (by omega) (by omega) (by omega) (by omega) (by omega) (Nat.le_of_ble_eq_true rfl) rfl ?_
  refine tl_aload_n rfl rfl ?_
  refine tl_getr (c := 9) (k9 := 7) rfl HB2.1 rfl (HB2.2.2.2.2.2 2 (by decide)).1 ?_
  refine tl_iconst rfl ?_
  show jT _ _ 111 _ _ _ _
  refine tl_aload_n rfl rfl ?_
  refine tl_getr (c := 9) (k9 := 7) rfl HB.1 rfl (HB.2.2.2.2.2 2 (by decide)).1 ?_
  refine tl_iconst rfl ?_
  refine tl_bipush rfl rfl ?_
  refine tl_copy rfl (HB2.2.2.2.2.2 2 (by decide)).2.1 (HB.2.2.2.2.2 2 (by decide)).2.1 (HB2.2.2.2.2.2 2 (by decide)).2.2 (HB.2.2.2.2.2 2 (by decide)).2.2 (by omega) (by omega) (by omega) (by omega) (by omega) (Nat.le_of_ble_eq_true rfl) rfl ?_
  refine tl_aload_n rfl rfl ?_
  refine tl_aload_n rfl rfl ?_
  show jT _ _ 123 _ _ _ _
  refine tl_geti (c := 9) (k9 := 8) rfl HB2.1 rfl ?_
  refine tl_puti (c := 9) (k9 := 8) rfl rfl HB.1 rfl ?_
  refine tl_aload_n rfl rfl ?_
  refine tl_aload_n rfl rfl ?_
  refine tl_geti (c := 9) (k9 := 9) rfl HB2.1 rfl ?_
  refine tl_puti (c := 9) (k9 := 9) rfl rfl HB.1 rfl ?_
  refine tl_ret rfl ?_
  -- leaf 0 at 137
  exact key
set_option maxRecDepth 20000 in
set_option maxHeartbeats 2000000 in
/-- copy(other): a State becomes what the other is -/
theorem k_copy (l : Launch) {b b2 : Nat} (HB : StS b) (HB2 : StS b2) (hd : b + 18 ≤ b2 ∨ b2 + 18 ≤ b) (h : jH) (R : Nat → Int) (hR : RS h b2 R) : cV l 111 [.ref b, .ref b2] h (fun h' => RS h' b R ∧ ∀ x, x < b ∨ b + 18 ≤ x → h' x = h x) := by
  refine cV.of rfl rfl ?_
  refine tl_aload_n rfl rfl ?_
  refine tl_getr (c := 9) (k9 := 0) rfl HB.1 rfl (HB.2.1 0 (by decide)).1 ?_
  refine tl_aload_n rfl rfl ?_
  refine tl_getr (c := 9) (k9 := 0) rfl HB2.1 rfl (HB2.2.1 0 (by decide)).1 ?_
  refine tl_v1v (c9 := 8) (c_copy_f l (HB.2.1 0 (by decide)).2 (HB2.2.1 0 (by decide)).2 h R 5 ((hR.1 0 (by decide)).keep (rfl) (rfl))) rfl rfl rfl (HB.2.1 0 (by decide)).2.1 rfl (Nat.le_of_ble_eq_true rfl) (fun g1 u1 => ?_)
  obtain ⟨u1, v1⟩ := u1
  refine tl_aload_n rfl rfl ?_
  show jT _ _ 12 _ _ _ _
  refine tl_getr (c := 9) (k9 := 1) rfl HB.1 rfl (HB.2.1 1 (by decide)).1 ?_
  refine tl_aload_n rfl rfl ?_
  refine tl_getr (c := 9) (k9 := 1) rfl HB2.1 rfl (HB2.2.1 1 (by decide)).1 ?_
  refine tl_v1v (c9 := 8) (c_copy_f l (HB.2.1 1 (by decide)).2 (HB2.2.1 1 (by decide)).2 g1 R 70 ((hR.1 1 (by decide)).keep (by rw [v1 _ (by omega) (by omega)]) (by rw [v1 _ (by omega) (by omega)]))) rfl rfl rfl (HB.2.1 1 (by decide)).2.1 rfl (Nat.le_of_ble_eq_true rfl) (fun g2 u2 => ?_)
  obtain ⟨u2, v2⟩ := u2
  refine tl_aload_n rfl rfl ?_
  refine tl_getr (c := 9) (k9 := 2) rfl HB.1 rfl (HB.2.1 2 (by decide)).1 ?_
  refine tl_aload_n rfl rfl ?_
  show jT _ _ 27 _ _ _ _
  refine tl_getr (c := 9) (k9 := 2) rfl HB2.1 rfl (HB2.2.1 2 (by decide)).1 ?_
  refine tl_v1v (c9 := 8) (c_copy_f l (HB.2.1 2 (by decide)).2 (HB2.2.1 2 (by decide)).2 g2 R 135 ((hR.1 2 (by decide)).keep (by rw [v2 _ (by omega) (by omega), v1 _ (by omega) (by omega)]) (by rw [v2 _ (by omega) (by omega), v1 _ (by omega) (by omega)]))) rfl rfl rfl (HB.2.1 2 (by decide)).2.1 rfl (Nat.le_of_ble_eq_true rfl) (fun g3 u3 => ?_)
  obtain ⟨u3, v3⟩ := u3
  refine tl_iconst rfl ?_
  refine tl_istore_n rfl (Nat.le_of_ble_eq_true rfl) rfl ?_
  show jT _ _ 35 _ _ _ _
  -- leaf 0 at 35
  refine k_copy_lp l HB HB2 hd h R hR _ (fun h1 a1 a2 a3 => k_copy_end l HB HB2 hd h h1 R hR a1 a2 a3 _ _ (fun h2 z1 z2 => ⟨rfl, z1, z2⟩)) _ 0 g3 (Nat.lt_succ_self _) (Nat.zero_le _) ?_ (fun q hq => absurd hq (Nat.not_lt_zero _)) ?_
  · intro f hf
    match f, hf with
    | 0, _ => exact (u1.keep (v2 _ (by omega) (by omega)) (v2 _ (by omega) (by omega))).keep (v3 _ (by omega) (by omega)) (v3 _ (by omega) (by omega))
    | 1, _ => exact u2.keep (v3 _ (by omega) (by omega)) (v3 _ (by omega) (by omega))
    | 2, _ => exact u3
  · intro x hx
    rw [v3 x (by omega) (by omega), v2 x (by omega) (by omega), v1 x (by omega) (by omega)]
