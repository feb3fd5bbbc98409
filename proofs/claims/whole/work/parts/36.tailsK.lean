/-! the tails, of the walked file: isOpen, isAlike, sizeOf, alikeFirst, isAhead, insert, sort -/
theorem jT.loc {l : Launch} {j pc : Nat} {L L' : jLo} {st : List Value} {h : jH} {P : Option Value → jH → Prop} (e : L = L') (k : jT l j pc L' st h P) : jT l j pc L st h P := by rw [e]; exact k
def ali (R : Nat → Int) (i p : Int) : Bool := opn R p && decide (0 ≤ i ∧ i < R 70 ∧ R (71 + i.toNat) = R (6 + p.toNat))
theorem ali_t {R : Nat → Int} {i p : Int} (h1 : opn R p = true) (h2 : 0 ≤ i ∧ i < R 70 ∧ R (71 + i.toNat) = R (6 + p.toNat)) : ali R i p = true := by rw [ali, h1, decide_eq_true h2]; rfl
theorem ali_t1 {R : Nat → Int} {i p : Int} (h : ali R i p = true) : opn R p = true ∧ 0 ≤ i ∧ i < R 70 ∧ R (71 + i.toNat) = R (6 + p.toNat) := by
  unfold ali at h
  cases h1 : opn R p with
  | false => rw [h1, Bool.false_and] at h; exact absurd h (by decide)
  | true => rw [h1, Bool.true_and] at h; exact ⟨rfl, of_decide_eq_true h⟩
theorem ali_f {R : Nat → Int} {i p : Int} (h : opn R p = false) : ali R i p = false := by rw [ali, h]; rfl
theorem ali_f2 {R : Nat → Int} {i p : Int} (h : ¬ (0 ≤ i ∧ i < R 70 ∧ R (71 + i.toNat) = R (6 + p.toNat))) : ali R i p = false := by rw [ali, decide_eq_false h, Bool.and_false]
theorem RS.o5 {h : jH} {R : Nat → Int} (hR : RS h 1 R) : h 2 1 = R 5 := (hR.1 0 (by decide)).1
theorem RS.o70 {h : jH} {R : Nat → Int} (hR : RS h 1 R) : h 4 1 = R 70 := (hR.1 1 (by decide)).1
theorem RS.ba {h : jH} {R : Nat → Int} (hR : RS h 1 R) {i : Nat} (hi : i < 64) : h 15 i = R (1103 + i) := (hR.2.2.1 i hi).1
theorem RS.of {h h' : jH} {R : Nat → Int} (hR : RS h 1 R) (e : ∀ x, 1 ≤ x → x < 19 → h' x = h x) : RS h' 1 R := by
  obtain ⟨a, b, c, d1, d2, d3, d4, d5⟩ := hR
  refine ⟨fun f hf => ?_, fun k hk => ?_, fun i hi => ?_, d1, ?_, ?_, ?_, ?_⟩
  · have := a f hf
    unfold RSf at this ⊢
    rw [e _ (by omega) (by omega), e _ (by omega) (by omega)]; exact this
  · have := b k hk
    unfold RSs at this ⊢
    rw [e _ (by omega) (by omega), e _ (by omega) (by omega)]; exact this
  · rw [e _ (by omega) (by omega)]; exact c i hi
  · rw [e 1 (by omega) (by omega)]; exact d2
  · rw [e 1 (by omega) (by omega)]; exact d3
  · rw [e 1 (by omega) (by omega)]; exact d4
  · rw [e 1 (by omega) (by omega), e (1 + 15) (by omega) (by omega), e (1 + 16) (by omega) (by omega), e (1 + 17) (by omega) (by omega)]; exact d5
theorem k_oget (l : Launch) (h : jH) (R : Nat → Int) (hR : RS h 1 R) (p : Int) (hp : jr p) : cI l 99 [.ref 2, .int (jI p)] h (fun z h' => h' = h ∧ z = if 0 ≤ p ∧ p < R 5 then R (6 + p.toNat) else -1) := by
  have hF := hR.1 0 (by decide)
  obtain ⟨f1, f2, f3, f4⟩ := hF
  have f1' : h 2 1 = R 5 := f1
  have f2' : 0 ≤ R 5 := f2
  have f3' : R 5 ≤ 64 := f3
  have f4' : ∀ i : Nat, (i : Int) < R 5 → h 3 i = R (6 + i) := fun i hi => by have := (f4 i hi).1; rwa [show 5 + 65 * 0 + 1 + i = 6 + i by omega] at this
  refine (c_Row_get l (RSf_S 0 (by decide)) h p (by show 0 ≤ h 2 1; omega) (by show h 2 1 ≤ _; omega) hp).mono (fun z h' q => ?_)
  refine ⟨q.1, q.2.trans ?_⟩
  show (if 0 ≤ p ∧ p < h 2 1 then h 3 p.toNat else -1) = _
  rw [f1']
  by_cases c : 0 ≤ p ∧ p < R 5
  · rw [if_pos c, if_pos c]
    exact f4' p.toNat (by omega)
  · rw [if_neg c, if_neg c]
theorem k_nget (l : Launch) (h : jH) (R : Nat → Int) (hR : RS h 1 R) (p : Int) (hp : jr p) : cI l 99 [.ref 4, .int (jI p)] h (fun z h' => h' = h ∧ z = if 0 ≤ p ∧ p < R 70 then R (71 + p.toNat) else -1) := by
  have hF := hR.1 1 (by decide)
  obtain ⟨f1, f2, f3, f4⟩ := hF
  have f1' : h 4 1 = R 70 := f1
  have f2' : 0 ≤ R 70 := f2
  have f3' : R 70 ≤ 64 := f3
  have f4' : ∀ i : Nat, (i : Int) < R 70 → h 5 i = R (71 + i) := fun i hi => by have := (f4 i hi).1; rwa [show 5 + 65 * 1 + 1 + i = 71 + i by omega] at this
  refine (c_Row_get l (RSf_S 1 (by decide)) h p (by show 0 ≤ h 4 1; omega) (by show h 4 1 ≤ _; omega) hp).mono (fun z h' q => ?_)
  refine ⟨q.1, q.2.trans ?_⟩
  show (if 0 ≤ p ∧ p < h 4 1 then h 5 p.toNat else -1) = _
  rw [f1']
  by_cases c : 0 ≤ p ∧ p < R 70
  · rw [if_pos c, if_pos c]
    exact f4' p.toNat (by omega)
  · rw [if_neg c, if_neg c]
set_option maxRecDepth 20000 in
set_option maxHeartbeats 1000000 in
theorem k_isOpen (l : Launch) (h : jH) (R : Nat → Int) (hR : RS h 1 R) (p : Int) (hp : jr p) : cI l 114 [.ref 1, .int (jI p)] h (fun z h' => h' = h ∧ z = zb (opn R p)) := by
  have p1 := hp.1
  have p2 := hp.2
  have ok := hR.ok
  obtain ⟨k1, k2, k3, k4, k5, k6, k7⟩ := ok
  refine cI.ofZ rfl rfl ?_
  refine tl_iload_n rfl rfl ?_
  refine tl_if_lt (tgt := 34) rfl rfl ⟨by omega, by omega⟩ (fun c1 => ?_) (fun c1 => ?_)
  · skip
    refine tl_iconst rfl ?_
    refine tl_iret rfl ?_
    -- leaf 0 at 35
    refine ⟨_, rfl, by omega, rfl, ?_⟩
    first | exact (zb_f (opn_f (by omega))).symm | exact (zb_t (opn_t' (by omega))).symm
  · show jT _ _ 4 _ _ _ _
    refine tl_iload_n rfl rfl ?_
    refine tl_aload_n rfl rfl ?_
    show jT _ _ 6 _ _ _ _
    refine tl_getr (c := 9) (k9 := 0) (b := 2) rfl rfl rfl rfl ?_
    refine tl_geti (c := 8) (k9 := 1) rfl rfl rfl ?_
    rw [hR.o5]
    refine tl_icmp_ge (tgt := 34) rfl rfl ⟨by omega, by omega⟩ ⟨by omega, by omega⟩ (fun c2 => ?_) (fun c2 => ?_)
    · skip
      refine tl_iconst rfl ?_
      refine tl_iret rfl ?_
      -- leaf 1 at 35
      refine ⟨_, rfl, by omega, rfl, ?_⟩
      first | exact (zb_f (opn_f (by omega))).symm | exact (zb_t (opn_t' (by omega))).symm
    · show jT _ _ 15 _ _ _ _
      refine tl_iload_n rfl rfl ?_
      refine tl_bipush rfl rfl ?_
      show jT _ _ 18 _ _ _ _
      refine tl_icmp_ge (tgt := 34) rfl rfl ⟨by omega, by omega⟩ ⟨by omega, by omega⟩ (fun c3 => ?_) (fun c3 => ?_)
      · skip
        refine tl_iconst rfl ?_
        refine tl_iret rfl ?_
        -- leaf 2 at 35
        refine ⟨_, rfl, by omega, rfl, ?_⟩
        first | exact (zb_f (opn_f (by omega))).symm | exact (zb_t (opn_t' (by omega))).symm
      · show jT _ _ 21 _ _ _ _
        refine tl_aload_n rfl rfl ?_
        refine tl_getr (c := 9) (k9 := 4) (b := 15) rfl rfl rfl rfl ?_
        refine tl_iload_n rfl rfl ?_
        refine tl_zald (n := 64) rfl rfl rfl (by omega) (by omega) ?_
        rw [hR.ba (by omega)]
        have b1 := k7 p.toNat (by omega)
        show jT _ _ 27 _ _ _ _
        refine tl_if_ne (tgt := 34) rfl rfl ⟨by omega, by omega⟩ (fun c4 => ?_) (fun c4 => ?_)
        · skip
          refine tl_iconst rfl ?_
          refine tl_iret rfl ?_
          -- leaf 3 at 35
          refine ⟨_, rfl, by omega, rfl, ?_⟩
          first | exact (zb_f (opn_f (by omega))).symm | exact (zb_t (opn_t' (by omega))).symm
        · show jT _ _ 30 _ _ _ _
          refine tl_iconst rfl ?_
          refine tl_goto (tgt := 35) rfl rfl ?_
          refine tl_iret rfl ?_
          -- leaf 4 at 35
          refine ⟨_, rfl, by omega, rfl, ?_⟩
          first | exact (zb_f (opn_f (by omega))).symm | exact (zb_t (opn_t' (by omega))).symm
set_option maxRecDepth 20000 in
set_option maxHeartbeats 1000000 in
theorem k_isAlike (l : Launch) (h : jH) (R : Nat → Int) (hR : RS h 1 R) (i p : Int) (hi : jr i) (hp : jr p) : cI l 115 [.ref 1, .int (jI i), .int (jI p)] h (fun z h' => h' = h ∧ z = zb (ali R i p)) := by
  have p1 := hp.1
  have p2 := hp.2
  have i1 := hi.1
  have i2 := hi.2
  have ok := hR.ok
  obtain ⟨k1, k2, k3, k4, k5, k6, k7⟩ := ok
  refine cI.ofZ rfl rfl ?_
  refine tl_aload_n rfl rfl ?_
  refine tl_iload_n rfl rfl ?_
  refine tl_v1i (c9 := 9) (k_isOpen l h R hR (p) ⟨by omega, by omega⟩) rfl rfl rfl rfl rfl (Nat.le_of_ble_eq_true rfl) (fun z1 h1 p1 => ?_)
  obtain ⟨q1, rfl⟩ := p1
  have q1 := q1.symm
  subst q1
  have b1 := zb_b (opn R (p))
  refine tl_if_eq (tgt := 46) rfl rfl ⟨by omega, by omega⟩ (fun c1 => ?_) (fun c1 => ?_)
  · skip
    have e1 := zb0 c1
    refine tl_iconst rfl ?_
    refine tl_iret rfl ?_
    -- leaf 0 at 47
    refine ⟨_, rfl, by omega, rfl, ?_⟩
    first | exact (zb_f (ali_f e1)).symm | exact (zb_f (ali_f2 (by omega))).symm | exact (zb_t (ali_t e1 (by omega))).symm
  · show jT _ _ 8 _ _ _ _
    have e1 := zb1' c1
    show jT _ _ 8 _ _ _ _
    refine tl_iload_n rfl rfl ?_
    refine tl_if_lt (tgt := 46) rfl rfl ⟨by omega, by omega⟩ (fun c2 => ?_) (fun c2 => ?_)
    · skip
      refine tl_iconst rfl ?_
      refine tl_iret rfl ?_
      -- leaf 1 at 47
      refine ⟨_, rfl, by omega, rfl, ?_⟩
      first | exact (zb_f (ali_f e1)).symm | exact (zb_f (ali_f2 (by omega))).symm | exact (zb_t (ali_t e1 (by omega))).symm
    · show jT _ _ 12 _ _ _ _
      refine tl_iload_n rfl rfl ?_
      refine tl_aload_n rfl rfl ?_
      refine tl_getr (c := 9) (k9 := 1) (b := 4) rfl rfl rfl rfl ?_
      show jT _ _ 17 _ _ _ _
      refine tl_geti (c := 8) (k9 := 1) rfl rfl rfl ?_
      rw [hR.o70]
      refine tl_icmp_ge (tgt := 46) rfl rfl ⟨by omega, by omega⟩ ⟨by omega, by omega⟩ (fun c3 => ?_) (fun c3 => ?_)
      · skip
        refine tl_iconst rfl ?_
        refine tl_iret rfl ?_
        -- leaf 2 at 47
        refine ⟨_, rfl, by omega, rfl, ?_⟩
        first | exact (zb_f (ali_f e1)).symm | exact (zb_f (ali_f2 (by omega))).symm | exact (zb_t (ali_t e1 (by omega))).symm
      · show jT _ _ 23 _ _ _ _
        refine tl_aload_n rfl rfl ?_
        refine tl_getr (c := 9) (k9 := 1) (b := 4) rfl rfl rfl rfl ?_
        refine tl_iload_n rfl rfl ?_
        show jT _ _ 28 _ _ _ _
        refine tl_v1i (c9 := 8) (k_nget l h R hR i hi) rfl rfl rfl rfl rfl (Nat.le_of_ble_eq_true rfl) (fun z2 h2 p2 => ?_)
        obtain ⟨q2, p2⟩ := p2
        have q2 := q2.symm
        subst q2
        rw [if_pos (by omega)] at p2
        have y2 := k6 i.toNat (by omega)
        have ya2 := y2.1
        have yb2 := y2.2
        refine tl_aload_n rfl rfl ?_
        refine tl_getr (c := 9) (k9 := 0) (b := 2) rfl rfl rfl rfl ?_
        refine tl_iload_n rfl rfl ?_
        refine tl_v1i (c9 := 8) (k_oget l h R hR (p) ⟨by omega, by omega⟩) rfl rfl rfl rfl rfl (Nat.le_of_ble_eq_true rfl) (fun z3 h3 p3 => ?_)
        obtain ⟨q3, p3⟩ := p3
        have q3 := q3.symm
        subst q3
        have o3 := opn_t e1
        rw [if_pos (by omega)] at p3
        have y3 := k5 (p).toNat (by omega)
        have ya3 := y3.1
        have yb3 := y3.2
        refine tl_icmp_ne (tgt := 46) rfl rfl ⟨by omega, by omega⟩ ⟨by omega, by omega⟩ (fun c4 => ?_) (fun c4 => ?_)
        · skip
          refine tl_iconst rfl ?_
          show jT _ _ 47 _ _ _ _
          refine tl_iret rfl ?_
          -- leaf 3 at 47
          refine ⟨_, rfl, by omega, rfl, ?_⟩
          first | exact (zb_f (ali_f e1)).symm | exact (zb_f (ali_f2 (by omega))).symm | exact (zb_t (ali_t e1 (by omega))).symm
        · show jT _ _ 42 _ _ _ _
          refine tl_iconst rfl ?_
          refine tl_goto (tgt := 47) rfl rfl ?_
          refine tl_iret rfl ?_
          -- leaf 4 at 47
          refine ⟨_, rfl, by omega, rfl, ?_⟩
          first | exact (zb_f (ali_f e1)).symm | exact (zb_f (ali_f2 (by omega))).symm | exact (zb_t (ali_t e1 (by omega))).symm
set_option maxRecDepth 20000 in
set_option maxHeartbeats 1000000 in
theorem k_sizeOf_lp (l : Launch) (h : jH) (R : Nat → Int) (hR : RS h 1 R) (p : Int) (p0 : 0 ≤ p) (p64 : p ≤ 64) (P : Option Value → jH → Prop) (hP : P (some (.int (jI (tsz R p : Int)))) h) : ∀ (m k : Nat), 64 - k < m → k ≤ 64 → (∀ i : Nat, i < k → opn R (p + i) = true) → jT l 125 2 [some (.ref 313), some (.ref 1), some (.int (jI p)), some (.int (jI (k : Int)))] [] h P := by
  have ok := hR.ok
  intro m
  induction m with
  | zero => intro k hk; omega
  | succ m ih =>
    intro k hk hkK hi
    refine tl_iload_n rfl rfl ?_
    refine tl_bipush rfl rfl ?_
    refine tl_icmp_ge (tgt := 24) rfl rfl ⟨by omega, by omega⟩ ⟨by omega, by omega⟩ (fun c1 => ?_) (fun c1 => ?_)
    · skip
      refine tl_iload_n rfl rfl ?_
      refine tl_iret rfl ?_
      -- leaf 0 at 25
      have e : tsz R p = k := tsz_u (by omega) hi (by first | exact e1 | exact opn_64 ok (by omega))
      rw [e] at hP
      exact hP
    · show jT _ _ 8 _ _ _ _
      refine tl_aload_n rfl rfl ?_
      show jT _ _ 9 _ _ _ _
      refine tl_iload_n rfl rfl ?_
      refine tl_iload_n rfl rfl ?_
      refine tl_iadd rfl ?_
      refine tl_v1i (c9 := 9) (k_isOpen l h R hR (p + (k : Int)) ⟨by omega, by omega⟩) rfl rfl rfl rfl rfl (Nat.le_of_ble_eq_true rfl) (fun z1 h1 p1 => ?_)
      obtain ⟨q1, rfl⟩ := p1
      have q1 := q1.symm
      subst q1
      have b1 := zb_b (opn R (p + (k : Int)))
      refine tl_if_eq (tgt := 24) rfl rfl ⟨by omega, by omega⟩ (fun c2 => ?_) (fun c2 => ?_)
      · skip
        have e1 := zb0 c2
        refine tl_iload_n rfl rfl ?_
        refine tl_iret rfl ?_
        -- leaf 1 at 25
        have e : tsz R p = k := tsz_u (by omega) hi (by first | exact e1 | exact opn_64 ok (by omega))
        rw [e] at hP
        exact hP
      · show jT _ _ 18 _ _ _ _
        have e1 := zb1' c2
        show jT _ _ 18 _ _ _ _
        refine tl_iinc rfl rfl rfl ?_
        refine tl_goto (tgt := 2) rfl rfl ?_
        show jT _ _ 2 _ _ _ _
        -- leaf 2 at 2
        exact ih (k + 1) (by omega) (by omega) (fun i hi2 => by by_cases c : i = k; subst c; exact e1; exact hi i (by omega))
set_option maxRecDepth 20000 in
set_option maxHeartbeats 1000000 in
theorem k_sizeOf (l : Launch) (h : jH) (R : Nat → Int) (hR : RS h 1 R) (p : Int) (p0 : 0 ≤ p) (p64 : p ≤ 64) : cI l 125 [.ref 313, .ref 1, .int (jI p)] h (fun z h' => h' = h ∧ z = (tsz R p : Int)) := by
  refine cI.of rfl rfl ?_
  refine tl_iconst rfl ?_
  refine tl_istore_n rfl (Nat.le_of_ble_eq_true rfl) rfl ?_
  show jT _ _ 2 _ _ _ _
  -- leaf 0 at 2
  exact k_sizeOf_lp l h R hR p p0 p64 _ ⟨_, rfl, rfl, rfl⟩ _ 0 (Nat.lt_succ_self _) (Nat.zero_le _) (fun i hi => by omega)
set_option maxRecDepth 20000 in
set_option maxHeartbeats 1000000 in
theorem k_alikeF_lp (l : Launch) (h : jH) (R : Nat → Int) (hR : RS h 1 R) (p q : Int) (p0 : 0 ≤ p) (p64 : p ≤ 64) (q0 : 0 ≤ q) (q64 : q ≤ 64) (P : Option Value → jH → Prop) (hP : P (some (.int (jI (com R p q : Int)))) h) : ∀ (m k : Nat), 64 - k < m → k ≤ 64 → (∀ i : Nat, i < k → cmP R p q i = true) → jT l 124 2 [some (.ref 1), some (.int (jI p)), some (.int (jI q)), some (.int (jI (k : Int)))] [] h P := by
  have ok := hR.ok
  obtain ⟨k1, k2, k3, k4, k5, k6, k7⟩ := ok
  intro m
  induction m with
  | zero => intro k hk; omega
  | succ m ih =>
    intro k hk hkK hi
    refine tl_iload_n rfl rfl ?_
    refine tl_bipush rfl rfl ?_
    refine tl_icmp_ge (tgt := 57) rfl rfl ⟨by omega, by omega⟩ ⟨by omega, by omega⟩ (fun c1 => ?_) (fun c1 => ?_)
    · skip
      refine tl_iload_n rfl rfl ?_
      refine tl_iret rfl ?_
      -- leaf 0 at 58
      have e : com R p q = k := com_u (by omega) hi (by first | exact cmP_f1 e1 | exact cmP_f2 e2 | exact cmP_f1 (opn_64 hR.ok (by omega)) | exact cmP_f3 (by rw [← p3, ← p4]; assumption))
      rw [e] at hP
      exact hP
    · show jT _ _ 8 _ _ _ _
      refine tl_aload_n rfl rfl ?_
      show jT _ _ 9 _ _ _ _
      refine tl_iload_n rfl rfl ?_
      refine tl_iload_n rfl rfl ?_
      refine tl_iadd rfl ?_
      refine tl_v1i (c9 := 9) (k_isOpen l h R hR (p + (k : Int)) ⟨by omega, by omega⟩) rfl rfl rfl rfl rfl (Nat.le_of_ble_eq_true rfl) (fun z1 h1 p1 => ?_)
      obtain ⟨q1, rfl⟩ := p1
      have q1 := q1.symm
      subst q1
      have b1 := zb_b (opn R (p + (k : Int)))
      refine tl_if_eq (tgt := 57) rfl rfl ⟨by omega, by omega⟩ (fun c2 => ?_) (fun c2 => ?_)
      · skip
        have e1 := zb0 c2
        refine tl_iload_n rfl rfl ?_
        refine tl_iret rfl ?_
        -- leaf 1 at 58
        have e : com R p q = k := com_u (by omega) hi (by first | exact cmP_f1 e1 | exact cmP_f2 e2 | exact cmP_f1 (opn_64 hR.ok (by omega)) | exact cmP_f3 (by rw [← p3, ← p4]; assumption))
        rw [e] at hP
        exact hP
      · show jT _ _ 18 _ _ _ _
        have e1 := zb1' c2
        show jT _ _ 18 _ _ _ _
        refine tl_aload_n rfl rfl ?_
        refine tl_iload_n rfl rfl ?_
        refine tl_iload_n rfl rfl ?_
        refine tl_iadd rfl ?_
        refine tl_v1i (c9 := 9) (k_isOpen l h R hR (q + (k : Int)) ⟨by omega, by omega⟩) rfl rfl rfl rfl rfl (Nat.le_of_ble_eq_true rfl) (fun z2 h2 p2 => ?_)
        obtain ⟨q2, rfl⟩ := p2
        have q2 := q2.symm
        subst q2
        have b2 := zb_b (opn R (q + (k : Int)))
        refine tl_if_eq (tgt := 57) rfl rfl ⟨by omega, by omega⟩ (fun c3 => ?_) (fun c3 => ?_)
        · skip
          have e2 := zb0 c3
          refine tl_iload_n rfl rfl ?_
          show jT _ _ 58 _ _ _ _
          refine tl_iret rfl ?_
          -- leaf 2 at 58
          have e : com R p q = k := com_u (by omega) hi (by first | exact cmP_f1 e1 | exact cmP_f2 e2 | exact cmP_f1 (opn_64 hR.ok (by omega)) | exact cmP_f3 (by rw [← p3, ← p4]; assumption))
          rw [e] at hP
          exact hP
        · show jT _ _ 28 _ _ _ _
          have e2 := zb1' c3
          refine tl_aload_n rfl rfl ?_
          refine tl_getr (c := 9) (k9 := 0) (b := 2) rfl rfl rfl rfl ?_
          refine tl_iload_n rfl rfl ?_
          refine tl_iload_n rfl rfl ?_
          refine tl_iadd rfl ?_
          refine tl_v1i (c9 := 8) (k_oget l h R hR (p + (k : Int)) ⟨by omega, by omega⟩) rfl rfl rfl rfl rfl (Nat.le_of_ble_eq_true rfl) (fun z3 h3 p3 => ?_)
          obtain ⟨q3, p3⟩ := p3
          have q3 := q3.symm
          subst q3
          have o3 := opn_t e1
          rw [if_pos (by omega)] at p3
          have y3 := k5 (p + (k : Int)).toNat (by omega)
          have ya3 := y3.1
          have yb3 := y3.2
          show jT _ _ 38 _ _ _ _
          refine tl_aload_n rfl rfl ?_
          refine tl_getr (c := 9) (k9 := 0) (b := 2) rfl rfl rfl rfl ?_
          refine tl_iload_n rfl rfl ?_
          refine tl_iload_n rfl rfl ?_
          refine tl_iadd rfl ?_
          refine tl_v1i (c9 := 8) (k_oget l h R hR (q + (k : Int)) ⟨by omega, by omega⟩) rfl rfl rfl rfl rfl (Nat.le_of_ble_eq_true rfl) (fun z4 h4 p4 => ?_)
          obtain ⟨q4, p4⟩ := p4
          have q4 := q4.symm
          subst q4
          have o4 := opn_t e2
          rw [if_pos (by omega)] at p4
          have y4 := k5 (q + (k : Int)).toNat (by omega)
          have ya4 := y4.1
          have yb4 := y4.2
          refine tl_icmp_ne (tgt := 57) rfl rfl ⟨by omega, by omega⟩ ⟨by omega, by omega⟩ (fun c4 => ?_) (fun c4 => ?_)
          · skip
            show jT _ _ 57 _ _ _ _
            refine tl_iload_n rfl rfl ?_
            refine tl_iret rfl ?_
            -- leaf 3 at 58
            have e : com R p q = k := com_u (by omega) hi (by first | exact cmP_f1 e1 | exact cmP_f2 e2 | exact cmP_f1 (opn_64 hR.ok (by omega)) | exact cmP_f3 (by rw [← p3, ← p4]; assumption))
            rw [e] at hP
            exact hP
          · show jT _ _ 51 _ _ _ _
            refine tl_iinc rfl rfl rfl ?_
            refine tl_goto (tgt := 2) rfl rfl ?_
            show jT _ _ 2 _ _ _ _
            -- leaf 4 at 2
            exact ih (k + 1) (by omega) (by omega) (fun i hi2 => by by_cases c : i = k; (subst c; exact cmP_t e1 e2 (by rw [← p3, ← p4]; omega)); exact hi i (by omega))
set_option maxRecDepth 20000 in
set_option maxHeartbeats 1000000 in
theorem k_alikeF (l : Launch) (h : jH) (R : Nat → Int) (hR : RS h 1 R) (p q : Int) (p0 : 0 ≤ p) (p64 : p ≤ 64) (q0 : 0 ≤ q) (q64 : q ≤ 64) : cI l 124 [.ref 1, .int (jI p), .int (jI q)] h (fun z h' => h' = h ∧ z = (com R p q : Int)) := by
  refine cI.of rfl rfl ?_
  refine tl_iconst rfl ?_
  refine tl_istore_n rfl (Nat.le_of_ble_eq_true rfl) rfl ?_
  show jT _ _ 2 _ _ _ _
  -- leaf 0 at 2
  exact k_alikeF_lp l h R hR p q p0 p64 q0 q64 _ ⟨_, rfl, rfl, rfl⟩ _ 0 (Nat.lt_succ_self _) (Nat.zero_le _) (fun i hi => by omega)
set_option maxRecDepth 20000 in
set_option maxHeartbeats 1000000 in
theorem k_isAhead (l : Launch) (h : jH) (R : Nat → Int) (hR : RS h 1 R) (p q : Int) (p0 : 0 ≤ p) (p64 : p ≤ 64) (q0 : 0 ≤ q) (q64 : q ≤ 64) : cI l 123 [.ref 1, .int (jI p), .int (jI q)] h (fun z h' => h' = h ∧ z = zb (ahd R p q)) := by
  have ok := hR.ok
  obtain ⟨k1, k2, k3, k4, k5, k6, k7⟩ := ok
  refine cI.ofZ rfl rfl ?_
  refine tl_aload_n rfl rfl ?_
  refine tl_iload_n rfl rfl ?_
  refine tl_iload_n rfl rfl ?_
  refine tl_s3i (k_alikeF l h R hR p q p0 p64 q0 q64) rfl rfl rfl (Nat.le_of_ble_eq_true rfl) (fun z9 h9 p9 => ?_)
  obtain ⟨q9, rfl⟩ := p9
  have q9 := q9.symm
  subst q9
  have c64 := (com_s hR.ok (q := q) p0).1
  refine tl_istore_n rfl (Nat.le_of_ble_eq_true rfl) rfl ?_
  refine tl_aload_n rfl rfl ?_
  show jT _ _ 8 _ _ _ _
  refine tl_iload_n rfl rfl ?_
  refine tl_iload_n rfl rfl ?_
  refine tl_iadd rfl ?_
  refine tl_v1i (c9 := 9) (k_isOpen l h R hR (p + (com R p q : Int)) ⟨by omega, by omega⟩) rfl rfl rfl rfl rfl (Nat.le_of_ble_eq_true rfl) (fun z1 h1 p1 => ?_)
  obtain ⟨q1, rfl⟩ := p1
  have q1 := q1.symm
  subst q1
  have b1 := zb_b (opn R (p + (com R p q : Int)))
  refine tl_if_ne (tgt := 21) rfl rfl ⟨by omega, by omega⟩ (fun c1 => ?_) (fun c1 => ?_)
  · skip
    have e1 := zb1 c1
    refine tl_iconst rfl ?_
    refine tl_istore rfl (Nat.le_of_ble_eq_true rfl) rfl ?_
    show jT _ _ 24 _ _ _ _
    refine tl_aload_n rfl rfl ?_
    refine tl_iload_n rfl rfl ?_
    refine tl_iload_n rfl rfl ?_
    refine tl_iadd rfl ?_
    refine tl_v1i (c9 := 9) (k_isOpen l h R hR (q + (com R p q : Int)) ⟨by omega, by omega⟩) rfl rfl rfl rfl rfl (Nat.le_of_ble_eq_true rfl) (fun z2 h2 p2 => ?_)
    obtain ⟨q2, rfl⟩ := p2
    have q2 := q2.symm
    subst q2
    have b2 := zb_b (opn R (q + (com R p q : Int)))
    refine tl_if_ne (tgt := 38) rfl rfl ⟨by omega, by omega⟩ (fun c2 => ?_) (fun c2 => ?_)
    · skip
      have e2 := zb1 c2
      refine tl_iconst rfl ?_
      show jT _ _ 39 _ _ _ _
      refine tl_istore rfl (Nat.le_of_ble_eq_true rfl) rfl ?_
      refine tl_iload rfl rfl ?_
      refine tl_if_eq (tgt := 62) rfl rfl ⟨by omega, by omega⟩ (fun c3 => ?_) (fun c3 => ?_)
      · skip
        refine tl_iload rfl rfl ?_
        refine tl_if_ne (tgt := 72) rfl rfl ⟨by omega, by omega⟩ (fun c4 => ?_) (fun c4 => ?_)
        · skip
          exfalso; omega
        · show jT _ _ 67 _ _ _ _
          refine tl_iload rfl rfl ?_
          refine tl_if_eq (tgt := 75) rfl rfl ⟨by omega, by omega⟩ (fun c5 => ?_) (fun c5 => ?_)
          · skip
            show jT _ _ 75 _ _ _ _
            refine tl_aload_n rfl rfl ?_
            refine tl_getr (c := 9) (k9 := 0) (b := 2) rfl rfl rfl rfl ?_
            refine tl_iload_n rfl rfl ?_
            refine tl_iload_n rfl rfl ?_
            refine tl_iadd rfl ?_
            refine tl_v1i (c9 := 8) (k_oget l h R hR (p + (com R p q : Int)) ⟨by omega, by omega⟩) rfl rfl rfl rfl rfl (Nat.le_of_ble_eq_true rfl) (fun z3 h3 p3 => ?_)
            obtain ⟨q3, p3⟩ := p3
            have q3 := q3.symm
            subst q3
            have o3 := opn_t e1
            rw [if_pos (by omega)] at p3
            have y3 := k5 (p + (com R p q : Int)).toNat (by omega)
            have ya3 := y3.1
            have yb3 := y3.2
            refine tl_aload_n rfl rfl ?_
            show jT _ _ 86 _ _ _ _
            refine tl_getr (c := 9) (k9 := 0) (b := 2) rfl rfl rfl rfl ?_
            refine tl_iload_n rfl rfl ?_
            refine tl_iload_n rfl rfl ?_
            refine tl_iadd rfl ?_
            refine tl_v1i (c9 := 8) (k_oget l h R hR (q + (com R p q : Int)) ⟨by omega, by omega⟩) rfl rfl rfl rfl rfl (Nat.le_of_ble_eq_true rfl) (fun z4 h4 p4 => ?_)
            obtain ⟨q4, p4⟩ := p4
            have q4 := q4.symm
            subst q4
            have o4 := opn_t e2
            rw [if_pos (by omega)] at p4
            have y4 := k5 (q + (com R p q : Int)).toNat (by omega)
            have ya4 := y4.1
            have yb4 := y4.2
            refine tl_icmp_ge (tgt := 102) rfl rfl ⟨by omega, by omega⟩ ⟨by omega, by omega⟩ (fun c6 => ?_) (fun c6 => ?_)
            · skip
              refine tl_iconst rfl ?_
              show jT _ _ 103 _ _ _ _
              refine tl_iret rfl ?_
              -- leaf 0 at 103
              first | (exfalso; omega) | skip
              refine ⟨_, rfl, by omega, rfl, ?_⟩
              rw [ahd, e1, e2]
              first | rfl | exact (zb_t (decide_eq_true (by omega))).symm | exact (zb_f (decide_eq_false (by omega))).symm
            · show jT _ _ 98 _ _ _ _
              refine tl_iconst rfl ?_
              refine tl_goto (tgt := 103) rfl rfl ?_
              refine tl_iret rfl ?_
              -- leaf 1 at 103
              first | (exfalso; omega) | skip
              refine ⟨_, rfl, by omega, rfl, ?_⟩
              rw [ahd, e1, e2]
              first | rfl | exact (zb_t (decide_eq_true (by omega))).symm | exact (zb_f (decide_eq_false (by omega))).symm
          · show jT _ _ 72 _ _ _ _
            exfalso; omega
      · show jT _ _ 46 _ _ _ _
        exfalso; omega
    · show jT _ _ 34 _ _ _ _
      have e2 := zb0' c2
      refine tl_iconst rfl ?_
      refine tl_goto (tgt := 39) rfl rfl ?_
      refine tl_istore rfl (Nat.le_of_ble_eq_true rfl) rfl ?_
      show jT _ _ 41 _ _ _ _
      refine tl_iload rfl rfl ?_
      refine tl_if_eq (tgt := 62) rfl rfl ⟨by omega, by omega⟩ (fun c7 => ?_) (fun c7 => ?_)
      · skip
        refine tl_iload rfl rfl ?_
        refine tl_if_ne (tgt := 72) rfl rfl ⟨by omega, by omega⟩ (fun c8 => ?_) (fun c8 => ?_)
        · skip
          exfalso; omega
        · show jT _ _ 67 _ _ _ _
          refine tl_iload rfl rfl ?_
          refine tl_if_eq (tgt := 75) rfl rfl ⟨by omega, by omega⟩ (fun c9 => ?_) (fun c9 => ?_)
          · skip
            exfalso; omega
          · show jT _ _ 72 _ _ _ _
            refine tl_iload rfl rfl ?_
            show jT _ _ 74 _ _ _ _
            refine tl_iret rfl ?_
            -- leaf 2 at 74
            first | (exfalso; omega) | skip
            refine ⟨_, rfl, by omega, rfl, ?_⟩
            rw [ahd, e1, e2]
            first | rfl | exact (zb_t (decide_eq_true (by omega))).symm | exact (zb_f (decide_eq_false (by omega))).symm
      · show jT _ _ 46 _ _ _ _
        exfalso; omega
  · show jT _ _ 17 _ _ _ _
    have e1 := zb0' c1
    refine tl_iconst rfl ?_
    refine tl_goto (tgt := 22) rfl rfl ?_
    refine tl_istore rfl (Nat.le_of_ble_eq_true rfl) rfl ?_
    refine tl_aload_n rfl rfl ?_
    refine tl_iload_n rfl rfl ?_
    refine tl_iload_n rfl rfl ?_
    show jT _ _ 27 _ _ _ _
    refine tl_iadd rfl ?_
    refine tl_v1i (c9 := 9) (k_isOpen l h R hR (q + (com R p q : Int)) ⟨by omega, by omega⟩) rfl rfl rfl rfl rfl (Nat.le_of_ble_eq_true rfl) (fun z2 h2 p2 => ?_)
    obtain ⟨q2, rfl⟩ := p2
    have q2 := q2.symm
    subst q2
    have b2 := zb_b (opn R (q + (com R p q : Int)))
    refine tl_if_ne (tgt := 38) rfl rfl ⟨by omega, by omega⟩ (fun c10 => ?_) (fun c10 => ?_)
    · skip
      have e2 := zb1 c10
      refine tl_iconst rfl ?_
      refine tl_istore rfl (Nat.le_of_ble_eq_true rfl) rfl ?_
      refine tl_iload rfl rfl ?_
      refine tl_if_eq (tgt := 62) rfl rfl ⟨by omega, by omega⟩ (fun c11 => ?_) (fun c11 => ?_)
      · skip
        exfalso; omega
      · show jT _ _ 46 _ _ _ _
        show jT _ _ 46 _ _ _ _
        refine tl_iload rfl rfl ?_
        refine tl_if_eq (tgt := 62) rfl rfl ⟨by omega, by omega⟩ (fun c12 => ?_) (fun c12 => ?_)
        · skip
          refine tl_iload rfl rfl ?_
          refine tl_if_ne (tgt := 72) rfl rfl ⟨by omega, by omega⟩ (fun c13 => ?_) (fun c13 => ?_)
          · skip
            refine tl_iload rfl rfl ?_
            refine tl_iret rfl ?_
            -- leaf 3 at 74
            first | (exfalso; omega) | skip
            refine ⟨_, rfl, by omega, rfl, ?_⟩
            rw [ahd, e1, e2]
            first | rfl | exact (zb_t (decide_eq_true (by omega))).symm | exact (zb_f (decide_eq_false (by omega))).symm
          · show jT _ _ 67 _ _ _ _
            exfalso; omega
        · show jT _ _ 51 _ _ _ _
          exfalso; omega
    · show jT _ _ 34 _ _ _ _
      have e2 := zb0' c10
      refine tl_iconst rfl ?_
      show jT _ _ 35 _ _ _ _
      refine tl_goto (tgt := 39) rfl rfl ?_
      refine tl_istore rfl (Nat.le_of_ble_eq_true rfl) rfl ?_
      refine tl_iload rfl rfl ?_
      refine tl_if_eq (tgt := 62) rfl rfl ⟨by omega, by omega⟩ (fun c14 => ?_) (fun c14 => ?_)
      · skip
        exfalso; omega
      · show jT _ _ 46 _ _ _ _
        refine tl_iload rfl rfl ?_
        refine tl_if_eq (tgt := 62) rfl rfl ⟨by omega, by omega⟩ (fun c15 => ?_) (fun c15 => ?_)
        · skip
          exfalso; omega
        · show jT _ _ 51 _ _ _ _
          refine tl_iload_n rfl rfl ?_
          show jT _ _ 52 _ _ _ _
          refine tl_iload_n rfl rfl ?_
          refine tl_icmp_ge (tgt := 60) rfl rfl ⟨by omega, by omega⟩ ⟨by omega, by omega⟩ (fun c16 => ?_) (fun c16 => ?_)
          · skip
            refine tl_iconst rfl ?_
            refine tl_iret rfl ?_
            -- leaf 4 at 61
            first | (exfalso; omega) | skip
            refine ⟨_, rfl, by omega, rfl, ?_⟩
            rw [ahd, e1, e2]
            first | rfl | exact (zb_t (decide_eq_true (by omega))).symm | exact (zb_f (decide_eq_false (by omega))).symm
          · show jT _ _ 56 _ _ _ _
            refine tl_iconst rfl ?_
            refine tl_goto (tgt := 61) rfl rfl ?_
            refine tl_iret rfl ?_
            -- leaf 5 at 61
            first | (exfalso; omega) | skip
            refine ⟨_, rfl, by omega, rfl, ?_⟩
            rw [ahd, e1, e2]
            first | rfl | exact (zb_t (decide_eq_true (by omega))).symm | exact (zb_f (decide_eq_false (by omega))).symm
