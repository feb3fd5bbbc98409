/-! make, best, cheapest -/
def Rsl (R : Nat → Int) (k : Int) (L : List Int) : Nat → Int := fun i => if i = (200 + 301 * k).toNat then (L.length : Int) else if (201 + 301 * k).toNat ≤ i ∧ i < (201 + 301 * k).toNat + L.length then L.getD (i - (201 + 301 * k).toNat) 0 else R i
def Tslot (s : jH) (k : Int) (L : List Int) : jH := hw s 390 (Rsl (s 390) k L)
theorem Ag.slot {s s' : jH} (h : Ag s s') (k : Int) (L : List Int) : Ag (Tslot s k L) (Tslot s' k L) := by
  unfold Tslot
  rw [h 390 (by decide)]
  exact h.w1 rfl
theorem RF.slot {s s' : jH} (h : RF s s') (k : Int) (L : List Int) : RF (Tslot s k L) (Tslot s' k L) := by
  refine ⟨fun x hx => ?_, fun q hq => ?_⟩
  · by_cases e : x = 390
    · subst e; rw [Tslot, Tslot, hw_s, hw_s, h.1 390 (by omega)]
    · rw [Tslot, Tslot, hw_o e, hw_o e]; exact h.1 x hx
  · rw [Tslot, Tslot, hw_o (by decide), hw_o (by decide)]; exact h.2 q hq
theorem RF.rem {s s' : jH} (h : RF s s') (a : Int) : RF (Trem s a) (Trem s' a) := by
  have e390 := h.1 390 (by omega)
  have e391 := h.1 391 (by omega)
  have e392 := h.1 392 (by omega)
  have e6 := h.2 6 (by omega)
  refine ⟨fun x hx => ?_, fun q hq => ?_⟩
  · by_cases c1 : x = 391
    · subst c1
      unfold Trem
      rw [e390, e391, e392, e6]
      split
      · rw [hw_o (by decide), hw_s, hw_o (by decide), hw_s]
      · rw [hs_O (by decide), hw_o (by decide), hw_s, hs_O (by decide), hw_o (by decide), hw_s]
    · by_cases c2 : x = 392
      · subst c2
        unfold Trem
        rw [e390, e391, e392, e6]
        split
        · rw [hw_s, hw_s]
        · rw [hs_O (by decide), hw_s, hs_O (by decide), hw_s]
      · rw [Trem_o (by omega) c1 c2, Trem_o (by omega) c1 c2]; exact h.1 x hx
  · by_cases c : q = 6
    · subst c
      unfold Trem
      rw [e390, e391, e392, e6]
      split
      · rw [hw_o (by decide), hw_o (by decide), hw_o (by decide), hw_o (by decide)]; exact e6
      · rw [hs_s, hs_s]
    · rw [Trem_n c, Trem_n c]; exact h.2 q hq
theorem Rsl_S {s : jH} {k : Nat} {L : List Int} (hL : L.length ≤ 300) : Stf s (Tslot s (k : Int) L) (200 + 301 * k) 301 := by
  refine ⟨fun x hx => hw_o hx, fun i hi => ?_⟩
  rw [Tslot, hw_s, Rsl, if_neg (by omega), if_neg (by omega)]
set_option maxRecDepth 20000 in
set_option maxHeartbeats 1000000 in
theorem k_keepMade (l : Launch) (h s : jH) (t act k : Int) (hI : IC h s t) (a0 : 0 ≤ act) (a1 : act ≤ 18) (k0 : 0 ≤ k) (k2 : k ≤ 2) (L : List Int) (kL : RL h 329 330 L) (l1 : 1 ≤ L.length) (l3 : L.length ≤ 300) (hB : LB L) : cI l 195 [.ref 0, .int (jI act), .int (jI k)] h (PK h t (dT (Tslot (Trem s act) k L) (L.length : Int))) := by
  refine cI.of rfl rfl ?_
  refine tl_iload_n rfl rfl ?_
  refine tl_s1i (k_isSlot l _ k ⟨by omega, by omega⟩) rfl rfl rfl (Nat.le_of_ble_eq_true rfl) (fun zs hs9 ps => ?_)
  obtain ⟨qs, ps⟩ := ps
  have qs := qs.symm
  subst qs
  have bs : zs = 0 ∨ zs = 1 := by rw [ps]; split <;> omega
  refine tl_if_ne (tgt := 13) rfl rfl ⟨by omega, by omega⟩ (fun c1 => ?_) (fun c1 => ?_)
  · skip
    refine tl_aload_n rfl rfl ?_
    refine tl_iload_n rfl rfl ?_
    refine tl_v1v (c9 := 11) (k_keep l _ s t act hI a0 a1) rfl rfl rfl rfl rfl (Nat.le_of_ble_eq_true rfl) (fun h1 p1 => ?_)
    obtain ⟨i1, f1⟩ := p1
    have kL1 : RL h1 329 330 L := kL.of (f1 329 (by omega)) (f1 330 (by omega))
    have hS := RSs_S k.toNat (by omega)
    show jT _ _ 18 _ _ _ _
    refine tl_aload_n rfl rfl ?_
    refine tl_getr (c := 11) (k9 := 0) (b := 1) rfl rfl rfl rfl ?_
    refine tl_getr (c := 9) (k9 := 3) (b := 8) rfl rfl rfl rfl ?_
    refine tl_iload_n rfl rfl ?_
    refine tl_aald (n := 3) rfl (Or.inl rfl) rfl (by omega) (by omega) (sr8 k.toNat (by omega)) ?_
    refine tl_aload_n rfl rfl ?_
    refine tl_getr (c := 11) (k9 := 12) (b := 328) rfl rfl rfl rfl ?_
    show jT _ _ 31 _ _ _ _
    refine tl_getr (c := 4) (k9 := 0) (b := 329) rfl rfl rfl rfl ?_
    refine tl_v1v (c9 := 8) (k_store_s l h1 (Trem s act) (Tslot (Trem s act) k L) t i1 k.toNat (by omega) R329 (L.length : Int) (fun i => L.getD i 0) kL1.1 (by omega) (by omega) (by omega) (fun i hi => ⟨kL1.2 i (by omega), hB.gd (by omega)⟩) (by have := Rsl_S (s := Trem s act) (k := k.toNat) (L := L) (by omega); rwa [show ((k.toNat : Nat) : Int) = k by omega] at this) (by rw [Tslot, hw_s, Rsl, if_pos (by omega)]) (fun i hi => by rw [Tslot, hw_s, Rsl, if_neg (by omega), if_pos (by omega)]; congr 1; omega)) rfl rfl rfl hS.1 rfl (Nat.le_of_ble_eq_true rfl) (fun h2 p2 => ?_)
    obtain ⟨i2, b2, f2⟩ := p2
    have kL2 : h2 329 1 = (L.length : Int) := by rw [f2 329 (by omega) (by omega)]; exact kL1.1
    refine tl_aload_n rfl rfl ?_
    refine tl_aload_n rfl rfl ?_
    refine tl_getr (c := 11) (k9 := 12) (b := 328) rfl rfl rfl rfl ?_
    refine tl_getr (c := 4) (k9 := 0) (b := 329) rfl rfl rfl rfl ?_
    refine tl_geti (c := 8) (k9 := 1) rfl rfl rfl ?_
    rw [kL2]
    show jT _ _ 48 _ _ _ _
    refine tl_v1i (c9 := 11) (k_accept l _ _) rfl rfl rfl rfl rfl (Nat.le_of_ble_eq_true rfl) (fun za ha pa => ?_)
    obtain ⟨rfl, rfl⟩ := pa
    refine tl_iret rfl ?_
    -- leaf 0 at 51
    exact ⟨_, rfl, PK.acc i2 (by omega) (fun x hx => by rw [f2 x (by omega) (by omega), f1 x (by omega)])⟩
  · show jT _ _ 7 _ _ _ _
    exfalso; omega
set_option maxRecDepth 20000 in
set_option maxHeartbeats 1000000 in
theorem r_put_lp (l : Launch) (h : jH) (k : Int) (k0 : 0 ≤ k) (k2 : k ≤ 2) (L : List Int) (kL : ML h L) (hL : L.length ≤ 300) (P : Option Value → jH → Prop) (hP : P (some (.int (jI (L.length : Int)))) (Tslot h k L)) : ∀ (m : Nat) (q : Nat) (mem : jH), L.length - q < m → ((q ≤ L.length) ∧ mem 390 (200 + 301 * k).toNat = (L.length : Int) ∧ (∀ i, i < q → mem 390 ((201 + 301 * k).toNat + i) = L.getD i 0) ∧ (∀ i, (i < (200 + 301 * k).toNat ∨ (201 + 301 * k).toNat + q ≤ i) → mem 390 i = h 390 i) ∧ ∀ y, y ≠ 390 → mem y = h y) → jT l 273 17 [some (.ref 388), some (.int (jI (k))), some (.int (jI ((200 + 301 * k)))), some (.int (jI ((q : Int))))] [] mem P := by
  intro m
  induction m with
  | zero => intro q mem hk; omega
  | succ m ih =>
    intro q mem hk hi
    obtain ⟨i0, i1, i2, i3, fr⟩ := hi
    have e388 := fr 388 (by decide)
    refine tl_iload_n rfl rfl ?_
    refine tl_aload_n rfl rfl ?_
    refine tl_geti (c := 12) (k9 := 27) rfl rfl rfl ?_
    rw [e388, kL.1]
    refine tl_icmp_ge (tgt := 47) rfl rfl ⟨by omega, by omega⟩ ⟨by omega, by omega⟩ (fun c1 => ?_) (fun c1 => ?_)
    · skip
      refine tl_aload_n rfl rfl ?_
      refine tl_geti (c := 12) (k9 := 27) rfl rfl rfl ?_
      rw [e388, kL.1]
      show jT _ _ 51 _ _ _ _
      refine tl_iret rfl ?_
      -- leaf 0 at 51
      have e : q = L.length := by omega
      have em : mem = Tslot h k L := by
        funext y
        by_cases c : y = 390
        · subst c
          funext i
          rw [Tslot, hw_s, Rsl]
          by_cases c1 : i = (200 + 301 * k).toNat
          · rw [if_pos c1, c1]; exact i1
          · rw [if_neg c1]
            by_cases c2 : (201 + 301 * k).toNat ≤ i ∧ i < (201 + 301 * k).toNat + L.length
            · rw [if_pos c2, ← i2 _ (by omega)]; exact congrArg (mem 390) (by omega)
            · rw [if_neg c2]; exact i3 i (by omega)
        · rw [Tslot, hw_o c]; exact fr y c
      rw [em]
      exact hP
    · show jT _ _ 25 _ _ _ _
      refine tl_aload_n rfl rfl ?_
      refine tl_getr (c := 12) (k9 := 3) (b := 390) rfl rfl rfl rfl ?_
      refine tl_iload_n rfl rfl ?_
      refine tl_iconst rfl ?_
      refine tl_iadd rfl ?_
      refine tl_iload_n rfl rfl ?_
      show jT _ _ 33 _ _ _ _
      refine tl_iadd rfl ?_
      refine tl_aload_n rfl rfl ?_
      refine tl_getr (c := 12) (k9 := 26) (b := 405) rfl rfl rfl rfl ?_
      refine tl_iload_n rfl rfl ?_
      refine tl_iald (n := 400) rfl rfl rfl (by omega) (by omega) ?_
      rw [fr 405 (by decide), Int.toNat_natCast, kL.2 q (by omega)]
      refine tl_iast (n := 1362) rfl rfl rfl (by omega) (by omega) ?_
      refine tl_iinc rfl rfl rfl ?_
      show jT _ _ 44 _ _ _ _
      refine tl_goto (tgt := 17) rfl rfl ?_
      show jT _ _ 17 _ _ _ _
      -- leaf 1 at 17
      refine ih (q + 1) _ (by omega) ⟨by omega, ?_, fun i hi => ?_, fun i hi => ?_, fun y hy => by rw [hs_O hy]; exact fr y hy⟩
      · rw [hs_k (by omega)]; exact i1
      · by_cases c : i = q
        · subst c; rw [show (200 + 301 * k + 1 + (i : Int)).toNat = (201 + 301 * k).toNat + i by omega, hs_s]
        · rw [hs_k (by omega)]; exact i2 i (by omega)
      · rw [hs_k (by omega)]; exact i3 i (by omega)
set_option maxRecDepth 20000 in
set_option maxHeartbeats 1000000 in
theorem r_putMade (l : Launch) (h : jH) (k : Int) (k0 : 0 ≤ k) (k2 : k ≤ 2) (L : List Int) (kL : ML h L) (hL : L.length ≤ 300) : cI l 273 [.ref 388, .int (jI k)] h (fun z h' => z = (L.length : Int) ∧ h' = Tslot h k L) := by
  refine cI.of rfl rfl ?_
  refine tl_iload_n rfl rfl ?_
  refine tl_s1i (c_slotAt l h k) rfl rfl rfl (Nat.le_of_ble_eq_true rfl) (fun z1 h1 p1 => ?_)
  obtain ⟨q1, rfl⟩ := p1
  have q1 := q1.symm
  subst q1
  refine tl_istore_n rfl (Nat.le_of_ble_eq_true rfl) rfl ?_
  refine tl_aload_n rfl rfl ?_
  refine tl_getr (c := 12) (k9 := 3) (b := 390) rfl rfl rfl rfl ?_
  refine tl_iload_n rfl rfl ?_
  show jT _ _ 10 _ _ _ _
  refine tl_aload_n rfl rfl ?_
  refine tl_geti (c := 12) (k9 := 27) rfl rfl rfl ?_
  rw [kL.1]
  refine tl_iast (n := 1362) rfl rfl rfl (by omega) (by omega) ?_
  refine tl_iconst rfl ?_
  refine tl_istore_n rfl (Nat.le_of_ble_eq_true rfl) rfl ?_
  show jT _ _ 17 _ _ _ _
  -- leaf 0 at 17
  refine r_put_lp l h k k0 k2 L kL hL _ ⟨_, rfl, rfl, rfl⟩ _ 0 _ (Nat.lt_succ_self _) ⟨Nat.zero_le _, hs_s, fun i hi => by omega, fun i hi => hs_k (by omega), fun y hy => hs_O hy⟩
set_option maxRecDepth 20000 in
set_option maxHeartbeats 1000000 in
theorem k_packA (l : Launch) (h : jH) (R : Nat → Int) (hR : RS h 1 R) (lst : Int) (l2 : 2 ≤ lst) (g3 : h 325 2 = R 70) (g4 : ∀ i : Nat, (i : Int) < R 70 → h 326 i = ogT R lst 0 i ∧ h 327 i = ogT R lst 1 i) : cI l 198 [.ref 0] h (fun z h' => z = ((PKN R lst).length : Int) ∧ RL h' 329 330 (PKN R lst) ∧ ∀ y, (y < 329 ∨ 338 < y) → h' y = h y) := by
  have ok := hR.ok
  obtain ⟨k1, k2, k3, k4, k5, k6, k7⟩ := ok
  have ok := hR.ok
  have o5 := hR.o5
  have o70 := hR.o70
  refine cI.of rfl rfl ?_
  refine tl_aload_n rfl rfl ?_
  refine tl_getr (c := 11) (k9 := 12) (b := 328) rfl rfl rfl rfl ?_
  refine tl_aload_n rfl rfl ?_
  refine tl_getr (c := 11) (k9 := 11) (b := 319) rfl rfl rfl rfl ?_
  refine tl_getr (c := 0) (k9 := 6) (b := 325) rfl rfl rfl rfl ?_
  refine tl_aload_n rfl rfl ?_
  show jT _ _ 12 _ _ _ _
  refine tl_getr (c := 11) (k9 := 0) (b := 1) rfl rfl rfl rfl ?_
  refine tl_getr (c := 9) (k9 := 0) (b := 2) rfl rfl rfl rfl ?_
  refine tl_geti (c := 8) (k9 := 1) rfl rfl rfl ?_
  rw [o5]
  refine tl_aload_n rfl rfl ?_
  refine tl_getr (c := 11) (k9 := 0) (b := 1) rfl rfl rfl rfl ?_
  refine tl_getr (c := 9) (k9 := 0) (b := 2) rfl rfl rfl rfl ?_
  refine tl_v0i (c9 := 8) (c_Row_checkAll l (RSf_S 0 (by decide)) h (by show 0 ≤ h 2 1; omega) (by show h 2 1 ≤ _; omega) (fun i hi => by have hi2 : (i : Int) < h 2 1 := hi; have q := (hR.1 0 (by decide)).2.2.2 i (by show (i : Int) < R 5; omega); exact ⟨by show 0 ≤ h 3 i; have e : h 3 i = R (5 + 65 * 0 + 1 + i) := q.1; have := q.2.1; omega, by show h 3 i < _; have e : h 3 i = R (5 + 65 * 0 + 1 + i) := q.1; have := q.2.2; omega⟩)) rfl rfl rfl rfl rfl (Nat.le_of_ble_eq_true rfl) (fun z1 h1 p1 => ?_)
  obtain ⟨q1, p1⟩ := p1
  have q1 := q1.symm
  subst q1
  have e1 : z1 = ckO R := by
    rw [p1]
    show ckF (h 3) (h 2 1).toNat = _
    rw [o5]
    refine ckF_congr _ (fun i hi => ?_)
    have q := ((hR.1 0 (by decide)).2.2.2 i (by show (i : Int) < R 5; omega)).1
    rw [show 5 + 65 * 0 + 1 + i = 6 + i by omega] at q; exact q
  clear p1
  subst e1
  show jT _ _ 31 _ _ _ _
  refine tl_aload_n rfl rfl ?_
  refine tl_getr (c := 11) (k9 := 0) (b := 1) rfl rfl rfl rfl ?_
  refine tl_getr (c := 9) (k9 := 1) (b := 4) rfl rfl rfl rfl ?_
  refine tl_v0i (c9 := 8) (c_Row_checkAll l (RSf_S 1 (by decide)) h (by show 0 ≤ h 4 1; omega) (by show h 4 1 ≤ _; omega) (fun i hi => by have hi2 : (i : Int) < h 4 1 := hi; have q := (hR.1 1 (by decide)).2.2.2 i (by show (i : Int) < R 70; omega); exact ⟨by show 0 ≤ h 5 i; have e : h 5 i = R (5 + 65 * 1 + 1 + i) := q.1; have := q.2.1; omega, by show h 5 i < _; have e : h 5 i = R (5 + 65 * 1 + 1 + i) := q.1; have := q.2.2; omega⟩)) rfl rfl rfl rfl rfl (Nat.le_of_ble_eq_true rfl) (fun z2 h2 p2 => ?_)
  obtain ⟨q2, p2⟩ := p2
  have q2 := q2.symm
  subst q2
  have e2 : z2 = ckN R := by
    rw [p2]
    show ckF (h 5) (h 4 1).toNat = _
    rw [o70]
    refine ckF_congr _ (fun i hi => ?_)
    have q := ((hR.1 1 (by decide)).2.2.2 i (by show (i : Int) < R 70; omega)).1
    rw [show 5 + 65 * 1 + 1 + i = 71 + i by omega] at q; exact q
  clear p2
  subst e2
  refine tl_v4i (c9 := 4) (k_pack l Or325 ⟨by omega, by omega, by omega⟩ h (ogT R lst) (R 70).toNat ⟨by rw [g3]; omega, fun i hi => g4 i (by omega)⟩ (ogT_v ok l2) (R 5) (ckO R) (ckN R) ⟨k1, k2⟩ ckO_b ckN_b) rfl rfl rfl rfl rfl (Nat.le_of_ble_eq_true rfl) (fun z3 h3 p3 => ?_)
  obtain ⟨rfl, k9, f9⟩ := p3
  refine tl_iret rfl ?_
  -- leaf 0 at 44
  exact ⟨_, rfl, rfl, k9, f9⟩
def Dmake (s : jH) (k : Int) : Int × jH := if 0 ≤ k ∧ k ≤ 2 then dT (Tslot (Trem s 8) k (PKN (s 390) (s 390 0))) ((PKN (s 390) (s 390 0)).length : Int) else dT s (-1)
theorem Ag.make {s s' : jH} (h : Ag s s') (k : Int) : AgD (Dmake s k) (Dmake s' k) := by
  unfold Dmake
  rw [h 390 (by decide)]
  split
  · exact ((h.rem 8).slot _ _).d _
  · exact h.d _
set_option maxRecDepth 20000 in
set_option maxHeartbeats 1000000 in
theorem k_make (l : Launch) (h s : jH) (t k : Int) (hI : IC h s t) (hk : jr k) : cI l 151 [.ref 0, .int (jI k)] h (PK h t (Dmake s k)) := by
  have k1 := hk.1
  have k2 := hk.2
  refine cI.of rfl rfl ?_
  refine tl_iload_n rfl rfl ?_
  refine tl_s1i (k_isSlot l _ k ⟨by omega, by omega⟩) rfl rfl rfl (Nat.le_of_ble_eq_true rfl) (fun zs hs9 ps => ?_)
  obtain ⟨qs, ps⟩ := ps
  have qs := qs.symm
  subst qs
  have bs : zs = 0 ∨ zs = 1 := by rw [ps]; split <;> omega
  refine tl_if_ne (tgt := 13) rfl rfl ⟨by omega, by omega⟩ (fun c1 => ?_) (fun c1 => ?_)
  · skip
    refine tl_aload_n rfl rfl ?_
    refine tl_v0v (c9 := 11) (k_findAnchors l h (s 390) hI.1 hI.rt hI.te) rfl rfl rfl rfl rfl (Nat.le_of_ble_eq_true rfl) (fun h1 p1 => ?_)
    obtain ⟨g1, g2, g3, g4, fr⟩ := p1
    have kf : KF h h1 := KF.of (fun x hx => fr x (by omega))
    have hR1 := kf.rs hI.1
    refine tl_aload_n rfl rfl ?_
    show jT _ _ 18 _ _ _ _
    refine tl_v0i (c9 := 11) (k_packA l h1 (s 390) hR1 (s 390 0) hI.rt.1.1 g3 g4) rfl rfl rfl rfl rfl (Nat.le_of_ble_eq_true rfl) (fun z2 h2 p2 => ?_)
    obtain ⟨pz, kL, f2⟩ := p2
    have kf2 : KF h1 h2 := KF.of (fun x hx => f2 x (by omega))
    have i2 := (kf.trans kf2).ic hI
    have pb := PKN_b hI.ok (lst := s 390 0) hI.rt.1.1
    refine tl_pop rfl rfl ?_
    refine tl_aload_n rfl rfl ?_
    refine tl_bipush rfl rfl ?_
    refine tl_iload_n rfl rfl ?_
    refine tl_v2i (c9 := 11) (k_keepMade l h2 s t 8 k i2 (by omega) (by omega) (by omega) (by omega) _ kL (by omega) (by omega) pb.2.2) rfl rfl rfl rfl rfl (Nat.le_of_ble_eq_true rfl) (fun z3 h3 p3 => ?_)
    refine tl_iret rfl ?_
    -- leaf 0 at 29
    refine ⟨_, rfl, ?_⟩
    rw [Dmake, if_pos (by omega)]
    exact ⟨p3.1, p3.2.1, fun x hx => by rw [p3.2.2 x hx]; exact (kf.trans kf2).1 x (Or.inr hx)⟩
  · show jT _ _ 7 _ _ _ _
    show jT _ _ 7 _ _ _ _
    refine tl_aload_n rfl rfl ?_
    refine tl_iconst rfl ?_
    refine tl_v1i (c9 := 11) (k_refuse l _ _ (by omega) (by omega)) rfl rfl rfl rfl rfl (Nat.le_of_ble_eq_true rfl) (fun zr hr pr => ?_)
    obtain ⟨rfl, rfl⟩ := pr
    refine tl_iret rfl ?_
    -- leaf 1 at 12
    refine ⟨_, rfl, ?_⟩
    rw [Dmake]
    repeat (first | rw [if_pos (by omega)] | rw [if_neg (by omega)])
    exact PK.ref hI (by omega) (by omega)
set_option maxRecDepth 20000 in
set_option maxHeartbeats 1000000 in
theorem r_make (l : Launch) (g h : jH) (t k : Int) (hI0 : IC g h t) (hk : jr k) : cI l 274 [.ref 388, .int (jI k)] h (PRF (Dmake (Tz h) k)) := by
  have k1 := hk.1
  have k2 := hk.2
  refine cI.of rfl rfl ?_
  refine tl_aload_n rfl rfl ?_
  refine tl_iconst rfl ?_
  refine tl_puti (c := 12) (k9 := 0) rfl rfl rfl rfl ?_
  have hI := hI0.z
  change jT _ _ _ _ _ (Tz h) _
  generalize Tz h = m at hI ⊢
  have nu := hI.nund
  have ok := hI.ok
  have hT := hI.rt
  have q0 := hT.1
  refine tl_iload_n rfl rfl ?_
  refine tl_s1i (c_isSlotR l _ k ⟨by omega, by omega⟩) rfl rfl rfl (Nat.le_of_ble_eq_true rfl) (fun z1 h1 p1 => ?_)
  obtain ⟨q1, p1⟩ := p1
  have q1 := q1.symm
  subst q1
  have b1 : z1 = 0 ∨ z1 = 1 := by rw [p1]; split <;> omega
  refine tl_if_ne (tgt := 18) rfl rfl ⟨by omega, by omega⟩ (fun c1 => ?_) (fun c1 => ?_)
  · skip
    show jT _ _ 18 _ _ _ _
    refine tl_aload_n rfl rfl ?_
    refine tl_aload_n rfl rfl ?_
    refine tl_getr (c := 12) (k9 := 3) (b := 390) rfl rfl rfl rfl ?_
    refine tl_iconst rfl ?_
    refine tl_iald (n := 1362) rfl rfl rfl (by omega) (by omega) ?_
    rw [show Int.toNat 0 = 0 from rfl]
    refine tl_v1v (c9 := 12) (r_packNow l m (m 390) rfl ok hT (m 390 0) (by omega) (by omega)) rfl rfl rfl rfl rfl (Nat.le_of_ble_eq_true rfl) (fun h1 p1 => ?_)
    obtain ⟨kL, fr, fr2⟩ := p1
    have rf : RF m h1 := RF.of (fun x hx => fr x (by omega)) (fun q hq => fr2 q (by omega))
    have nu1 : 0 ≤ h1 388 6 ∧ h1 388 6 ≤ 16 := by rw [rf.2 6 (by omega)]; exact nu
    refine tl_aload_n rfl rfl ?_
    show jT _ _ 29 _ _ _ _
    refine tl_bipush rfl rfl ?_
    refine tl_v1v (c9 := 12) (r_remember l h1 8 nu1.1 nu1.2) rfl rfl rfl rfl rfl (Nat.le_of_ble_eq_true rfl) (fun h2 p2 => ?_)
    subst p2
    have pb := PKN_b ok (lst := m 390 0) (by omega)
    have kL2 : ML (Trem h1 8) (PKN (m 390) (m 390 0)) := ⟨by rw [Trem_n (by decide)]; exact kL.1, fun i hi => by rw [Trem_o (by decide) (by decide) (by decide)]; exact kL.2 i hi⟩
    refine tl_aload_n rfl rfl ?_
    refine tl_aload_n rfl rfl ?_
    refine tl_iload_n rfl rfl ?_
    refine tl_v1i (c9 := 12) (r_putMade l (Trem h1 8) k (by omega) (by omega) _ kL2 (by omega)) rfl rfl rfl rfl rfl (Nat.le_of_ble_eq_true rfl) (fun z3 h3 p3 => ?_)
    obtain ⟨rfl, p3⟩ := p3
    subst p3
    refine tl_v1i (c9 := 12) (c_tell l _ _ ⟨by omega, by omega⟩ (by omega)) rfl rfl rfl rfl rfl (Nat.le_of_ble_eq_true rfl) (fun zt ht pt => ?_)
    obtain ⟨rfl, pt⟩ := pt
    show jT _ _ 43 _ _ _ _
    refine tl_iret rfl ?_
    -- leaf 0 at 43
    refine ⟨_, rfl, ?_⟩
    rw [Dmake, if_pos (by omega), pt]
    exact ⟨rfl, RF.tell ((rf.rem 8).slot k _) _ (by omega)⟩
  · show jT _ _ 12 _ _ _ _
    refine tl_aload_n rfl rfl ?_
    refine tl_iconst rfl ?_
    refine tl_v1i (c9 := 12) (c_tell l _ _ ⟨by omega, by omega⟩ (by omega)) rfl rfl rfl rfl rfl (Nat.le_of_ble_eq_true rfl) (fun zt ht pt => ?_)
    obtain ⟨rfl, pt⟩ := pt
    refine tl_iret rfl ?_
    -- leaf 1 at 17
    refine ⟨_, rfl, ?_⟩
    rw [Dmake, if_neg (by omega), pt]
    exact ⟨rfl, RF.rfl'⟩
