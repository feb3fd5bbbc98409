/-! turn -/
def lo (g : jH) (q : Int) (n : Nat) : Nat → Int
  | 0 => -1
  | d + 1 => if g 0 (n - 1 - d) = q then ((n - 1 - d : Nat) : Int) else lo g q n d
theorem lo_b {g : jH} {q : Int} {n : Nat} : ∀ d, d ≤ n → lo g q n d = -1 ∨ (0 ≤ lo g q n d ∧ lo g q n d < (n : Int)) := by
  intro d
  induction d with
  | zero => intro _; exact Or.inl rfl
  | succ d ih =>
    intro h
    have a := ih (by omega)
    rw [lo]
    split <;> omega
def trv (g : jH) (R : Nat → Int) (q : Nat) (p : Int) : Int := if p = -1 then R (6 + q) else (R (6 + q) - coV g R p.toNat) % 256
def TRN (g : jH) (R : Nat → Int) (n : Nat) : jH := fun r q => if r = 0 then lo g q n n else trv g R q (lo g q n n)
theorem TRN_0 {g : jH} {R : Nat → Int} {n q : Nat} : TRN g R n 0 q = lo g q n n := by unfold TRN; rw [if_pos rfl]
theorem TRN_1 {g : jH} {R : Nat → Int} {n q : Nat} : TRN g R n 1 q = trv g R q (lo g q n n) := by unfold TRN; rw [if_neg (by decide)]
theorem TRN_v {g : jH} {R : Nat → Int} {n : Nat} (ok : Rok R) (n64 : n ≤ 64) : OGv (TRN g R n) (R 5).toNat := by
  obtain ⟨k1, k2, k3, k4, k5, k6, k7⟩ := ok
  refine ⟨by omega, fun i hi => ?_⟩
  rw [TRN_0, TRN_1]
  have a := lo_b (g := g) (q := (i : Int)) (n := n) n (Nat.le_refl _)
  refine ⟨by omega, ?_⟩
  unfold trv
  split
  · exact k5 i (by omega)
  · unfold byt; omega
theorem coV_b {g : jH} {R : Nat → Int} {n : Nat} (h : OGs g R n) : ∀ i, i < n → byt (coV g R i) := fun i hi => by
  have a := (coL_B h n (Nat.le_refl _)).gd (i := i) (by rw [coL_len]; exact hi)
  rw [coL_gd n i hi] at a
  exact a
def TUL (R : Nat → Int) (a : Int) : List Int := PKL (TRN (rG (slL R a)) R (rNs (slL R a)).toNat) (R 5).toNat (rNs (slL R a)) (rNc (slL R a)) (ckO R)
def Dturn (s : jH) (a b : Int) : Int × jH := if a < 0 ∨ 2 < a ∨ b < 0 ∨ 2 < b then dT s (-1) else if s 390 (200 + 301 * a).toNat = -1 then dT s (-2) else if rdF (slL (s 390) a) true (s 390) ≠ 0 then dT (lat s (rdF (slL (s 390) a) true (s 390))) (-3) else dT (Tslot (Trem (lat s 0) 10) b (TUL (s 390) a)) ((TUL (s 390) a).length : Int)
theorem Ag.turn {s s' : jH} (h : Ag s s') (a b : Int) : AgD (Dturn s a b) (Dturn s' a b) := by
  unfold Dturn
  rw [h 390 (by decide)]
  split
  · exact h.d _
  · split
    · exact h.d _
    · split
      · exact (h.lat _).d _
      · exact (((h.lat _).rem 10).slot _ _).d _
theorem TUL_b {R : Nat → Int} {a : Int} (ok : Rok R) (ha : LB (slL R a)) (a3 : (slL R a).length ≤ 300) (za : rdF (slL R a) true R = 0) : OGv (TRN (rG (slL R a)) R (rNs (slL R a)).toNat) (R 5).toNat ∧ 2 ≤ (TUL R a).length ∧ (TUL R a).length ≤ 267 ∧ LB (TUL R a) := by
  have A := rdA ha a3 za
  have hv := TRN_v (g := rG (slL R a)) (n := (rNs (slL R a)).toNat) ok (by have := A.2.2.1; omega)
  exact ⟨hv, (pk_b hv A.2.2.1 (by have := A.2.2.2.1; omega) ckO_b).2.2.2.2⟩
/-- reading for an act -/
def rfA (R : Nat → Int) (k : Int) : Int := if k < 0 ∨ 2 < k then -1 else if R (200 + 301 * k).toNat = -1 then -2 else if rdF (slL R k) true R ≠ 0 then -3 else 0
def rfS (s : jH) (k : Int) : jH := if k < 0 ∨ 2 < k then s else if s 390 (200 + 301 * k).toNat = -1 then s else lat s (rdF (slL (s 390) k) true (s 390))
theorem RDP.o9 {h h' : jH} {V : List Int} (k : RDP h V) (e : ∀ x, 339 ≤ x → x ≤ 355 → h' x = h x) : RDP h' V := by
  obtain ⟨k1, k2, k3, k4, k5⟩ := k
  refine ⟨?_, k2.of (fun x x1 x2 => e x (by omega) (by omega)), k3.of (e _ (by decide) (by decide)) (e _ (by decide) (by decide)) (e _ (by decide) (by decide)), ?_, ?_⟩
  · rw [e 339 (by decide) (by decide)]; exact k1
  · rw [e 344 (by decide) (by decide)]; exact k4
  · rw [e 344 (by decide) (by decide)]; exact k5
theorem RL.o9 {h h' : jH} {r a : Nat} {L : List Int} (k : RL h r a L) (e1 : h' r = h r) (e2 : h' a = h a) : RL h' r a L := ⟨by rw [e1]; exact k.1, fun i hi => by rw [e2]; exact k.2 i hi⟩
theorem rfS_390 {s : jH} {k : Int} : rfS s k 390 = s 390 := by unfold rfS; split; rfl; split; rfl; exact lat_390
set_option maxRecDepth 20000 in
set_option maxHeartbeats 1000000 in
theorem k_tr_A (l : Launch) (h g : jH) (R : Nat → Int) (hR : RS h 1 R) (n : Nat) (n64 : n ≤ 64) (hg : OG h 345 346 347 g n) (hs9 : OGs g R n) (ho : RL h 348 349 (coL g R n)) (P : Option Value → jH → Prop) (hx : ∀ mem, (mem 383 2 = R 5 ∧ (∀ q : Nat, (q : Int) < R 5 → mem 384 q = -1 ∧ mem 385 q = R (6 + q)) ∧ (∀ x, x ≠ 383 → x ≠ 384 → x ≠ 385 → mem x = h x)) → jT l 46 34 [some (.ref 383), some (.ref 345), some (.ref 2), some (.ref 348), some (.int (jI (R 5))), none] [] mem P) : ∀ (m : Nat) (k : Nat) (mem : jH), (R 5).toNat - k < m → ((k : Int) ≤ R 5 ∧ mem 383 2 = (k : Int) ∧ (∀ q, q < k → mem 384 q = -1 ∧ mem 385 q = R (6 + q)) ∧ (∀ x, x ≠ 383 → x ≠ 384 → x ≠ 385 → mem x = h x)) → jT l 46 8 [some (.ref 383), some (.ref 345), some (.ref 2), some (.ref 348), some (.int (jI ((k : Int)))), none] [] mem P := by
  have ok := hR.ok
  obtain ⟨k1, k2, k3, k4, k5, k6, k7⟩ := ok
  intro m
  induction m with
  | zero => intro k mem hk; omega
  | succ m ih =>
    intro k mem hk hi
    obtain ⟨i0, i9, i1, fr⟩ := hi
    have hRm : RS mem 1 R := hR.of (fun x x1 x2 => fr x (by omega) (by omega) (by omega))
    refine tl_iload rfl rfl ?_
    refine tl_aload_n rfl rfl ?_
    refine tl_geti (c := 8) (k9 := 1) rfl rfl rfl ?_
    rw [hRm.o5]
    refine tl_icmp_ge (tgt := 34) rfl rfl ⟨by omega, by omega⟩ ⟨by omega, by omega⟩ (fun c1 => ?_) (fun c1 => ?_)
    · skip
      show jT _ _ 34 _ _ _ _
      -- leaf 0 at 34
      have e : (k : Int) = R 5 := by omega
      refine jT.loc ?_ (hx mem ⟨by omega, fun q hq => i1 q (by omega), fr⟩)
      rw [e]
    · show jT _ _ 17 _ _ _ _
      refine tl_aload_n rfl rfl ?_
      refine tl_iconst rfl ?_
      show jT _ _ 19 _ _ _ _
      refine tl_aload_n rfl rfl ?_
      refine tl_iload rfl rfl ?_
      refine tl_v1i (c9 := 8) (k_oget l mem R hRm ((k : Int)) ⟨by omega, by omega⟩) rfl rfl rfl rfl rfl (Nat.le_of_ble_eq_true rfl) (fun z1 h1 p1 => ?_)
      obtain ⟨q1, p1⟩ := p1
      have q1 := q1.symm
      subst q1
      rw [if_pos (by omega)] at p1
      have y1 := k5 ((k : Int)).toNat (by omega)
      have ya1 := y1.1
      have yb1 := y1.2
      rw [Int.toNat_natCast] at p1
      refine tl_v2v (c9 := 3) (c_Or_add l Or383 mem (-1) z1 (by omega) (by omega)) rfl rfl rfl rfl rfl (Nat.le_of_ble_eq_true rfl) (fun h2 p2 => ?_)
      subst p2
      rw [i9, Int.toNat_natCast]
      refine tl_iinc rfl rfl rfl ?_
      refine tl_goto (tgt := 8) rfl rfl ?_
      show jT _ _ 8 _ _ _ _
      -- leaf 1 at 8
      refine ih (k + 1) _ (by omega) ⟨by omega, by rw [hs_s]; omega, fun q hq => ?_, fun x x1 x2 x3 => by rw [hs_O x1, hs_O x3, hs_O x2]; exact fr x x1 x2 x3⟩
      by_cases c : q = k
      · subst c; exact ⟨by rw [hs_o (by decide), hs_o (by decide), hs_s], by rw [hs_o (by decide), hs_s]; exact p1⟩
      · exact ⟨by rw [hs_o (by decide), hs_k2 c, hs_k2 c]; exact (i1 q (by omega)).1, by rw [hs_o (by decide), hs_k2 c, hs_k2 c]; exact (i1 q (by omega)).2⟩
set_option maxRecDepth 20000 in
set_option maxHeartbeats 1000000 in
theorem k_tr_B (l : Launch) (h g : jH) (R : Nat → Int) (hR : RS h 1 R) (n : Nat) (n64 : n ≤ 64) (hg : OG h 345 346 347 g n) (hs9 : OGs g R n) (ho : RL h 348 349 (coL g R n)) (P : Option Value → jH → Prop) (hP : ∀ mem, (OG mem 383 384 385 (TRN g R n) (R 5).toNat ∧ (∀ x, x ≠ 383 → x ≠ 384 → x ≠ 385 → mem x = h x)) → P none mem) : ∀ (m : Nat) (d : Nat) (mem : jH) (y5 : Option Value), n - d < m → (d ≤ n ∧ mem 383 2 = R 5 ∧ (∀ q : Nat, (q : Int) < R 5 → mem 384 q = lo g q n d ∧ mem 385 q = trv g R q (lo g q n d)) ∧ (∀ x, x ≠ 383 → x ≠ 384 → x ≠ 385 → mem x = h x)) → jT l 46 42 [some (.ref 383), some (.ref 345), some (.ref 2), some (.ref 348), some (.int (jI ((n : Int) - 1 - (d : Int)))), y5] [] mem P := by
  have ok := hR.ok
  obtain ⟨k1, k2, k3, k4, k5, k6, k7⟩ := ok
  intro m
  induction m with
  | zero => intro d mem y5 hk; omega
  | succ m ih =>
    intro d mem y5 hk hi
    obtain ⟨i0, i9, i1, fr⟩ := hi
    have hRm : RS mem 1 R := hR.of (fun x x1 x2 => fr x (by omega) (by omega) (by omega))
    have e4 : mem 345 2 = (n : Int) := by rw [fr 345 (by decide) (by decide) (by decide)]; exact hg.1
    have e8 : mem 348 1 = (n : Int) := by rw [fr 348 (by decide) (by decide) (by decide), ho.1, coL_len]
    have kf : n ≤ d ∨ (d < n ∧ mem 346 (n - 1 - d) = g 0 (n - 1 - d) ∧ (g 0 (n - 1 - d) = -1 ∨ (0 ≤ g 0 (n - 1 - d) ∧ g 0 (n - 1 - d) < R 5)) ∧ mem 349 (n - 1 - d) = coV g R (n - 1 - d) ∧ 0 ≤ coV g R (n - 1 - d) ∧ coV g R (n - 1 - d) ≤ 255) := by
      by_cases c : d < n
      · right
        have a := hg.2 (n - 1 - d) (by omega)
        have b := (hs9 (n - 1 - d) (by omega)).1
        have e := ho.2 (n - 1 - d) (by rw [coL_len]; omega)
        rw [coL_gd n _ (by omega)] at e
        have f := coV_b hs9 (n - 1 - d) (by omega)
        refine ⟨c, ?_, b, ?_, f.1, f.2⟩
        · rw [fr 346 (by decide) (by decide) (by decide)]; exact a.1
        · rw [fr 349 (by decide) (by decide) (by decide)]; exact e
      · exact Or.inl (by omega)
    refine tl_iload rfl rfl ?_
    refine tl_if_lt (tgt := 92) rfl rfl ⟨by omega, by omega⟩ (fun c1 => ?_) (fun c1 => ?_)
    · skip
      refine tl_ret rfl ?_
      -- leaf 0 at 92
      have e : d = n := by omega
      subst e
      refine hP mem ⟨⟨by omega, fun q hq => ?_⟩, fr⟩
      rw [TRN_0, TRN_1]
      exact i1 q (by omega)
    · show jT _ _ 47 _ _ _ _
      refine tl_aload_n rfl rfl ?_
      refine tl_iload rfl rfl ?_
      refine tl_v1i (c9 := 3) (c_Or_placeAt l Or345 mem ((n : Int) - 1 - (d : Int)) ⟨by omega, by omega⟩ (by omega) (by omega)) rfl rfl rfl rfl rfl (Nat.le_of_ble_eq_true rfl) (fun z1 h1 p1 => ?_)
      obtain ⟨q1, p1⟩ := p1
      have q1 := q1.symm
      subst q1
      rw [if_pos (by omega), show ((n : Int) - 1 - (d : Int)).toNat = n - 1 - d by omega, show mem 346 (n - 1 - d) = g 0 (n - 1 - d) by omega] at p1
      subst p1
      show jT _ _ 53 _ _ _ _
      refine tl_istore rfl (Nat.le_of_ble_eq_true rfl) rfl ?_
      refine tl_iload rfl rfl ?_
      refine tl_iconst rfl ?_
      refine tl_icmp_eq (tgt := 86) rfl rfl ⟨by omega, by omega⟩ ⟨by omega, by omega⟩ (fun c2 => ?_) (fun c2 => ?_)
      · skip
        refine tl_iinc rfl rfl rfl ?_
        refine tl_goto (tgt := 42) rfl rfl ?_
        show jT _ _ 42 _ _ _ _
        -- leaf 1 at 42
        have e : ∀ q : Nat, lo g q n (d + 1) = lo g q n d := fun q => by rw [lo, if_neg (by omega)]
        rw [show (n : Int) - 1 - (d : Int) + -1 = (n : Int) - 1 - ((d + 1 : Nat) : Int) by omega]
        exact ih (d + 1) mem _ (by omega) ⟨by omega, i9, fun q hq => by rw [e]; exact i1 q hq, fr⟩
      · show jT _ _ 61 _ _ _ _
        refine tl_aload_n rfl rfl ?_
        show jT _ _ 62 _ _ _ _
        refine tl_iload rfl rfl ?_
        refine tl_iload rfl rfl ?_
        refine tl_aload_n rfl rfl ?_
        refine tl_iload rfl rfl ?_
        refine tl_v1i (c9 := 8) (k_oget l mem R hRm (g 0 (n - 1 - d)) ⟨by omega, by omega⟩) rfl rfl rfl rfl rfl (Nat.le_of_ble_eq_true rfl) (fun z2 h2 p2 => ?_)
        obtain ⟨q2, p2⟩ := p2
        have q2 := q2.symm
        subst q2
        rw [if_pos (by omega)] at p2
        have y2 := k5 (g 0 (n - 1 - d)).toNat (by omega)
        have ya2 := y2.1
        have yb2 := y2.2
        subst p2
        refine tl_aload_n rfl rfl ?_
        refine tl_iload rfl rfl ?_
        show jT _ _ 75 _ _ _ _
        refine tl_v1i (c9 := 8) (c_Row_get l R348 mem ((n : Int) - 1 - (d : Int)) (by omega) (by omega) ⟨by omega, by omega⟩) rfl rfl rfl rfl rfl (Nat.le_of_ble_eq_true rfl) (fun z3 h3 p3 => ?_)
        obtain ⟨q3, p3⟩ := p3
        have q3 := q3.symm
        subst q3
        rw [if_pos (by omega), show ((n : Int) - 1 - (d : Int)).toNat = n - 1 - d by omega, show mem 349 (n - 1 - d) = coV g R (n - 1 - d) by omega] at p3
        subst p3
        refine tl_isub rfl ?_
        refine tl_sipush rfl rfl ?_
        refine tl_iand rfl (jI_and255 _) ?_
        refine tl_v3v (c9 := 3) (c_Or_change l Or383 mem (g 0 (n - 1 - d)) _ _ (by omega) (by omega) (by omega)) rfl rfl rfl rfl rfl (Nat.le_of_ble_eq_true rfl) (fun h4 p4 => ?_)
        subst p4
        refine tl_iinc rfl rfl rfl ?_
        refine tl_goto (tgt := 42) rfl rfl ?_
        show jT _ _ 42 _ _ _ _
        -- leaf 2 at 42
        rw [show (n : Int) - 1 - (d : Int) + -1 = (n : Int) - 1 - ((d + 1 : Nat) : Int) by omega]
        refine ih (d + 1) _ _ (by omega) ⟨by omega, by rw [hs_o (by decide), hs_o (by decide)]; exact i9, fun q hq => ?_, fun x x1 x2 x3 => by rw [hs_O x3, hs_O x2]; exact fr x x1 x2 x3⟩
        by_cases c : q = (g 0 (n - 1 - d)).toNat
        · have e : lo g q n (d + 1) = (n : Int) - 1 - (d : Int) := by rw [lo, if_pos (by omega)]; omega
          rw [e]
          subst c
          refine ⟨?_, ?_⟩
          · rw [hs_o (by decide), hs_s]
          · rw [hs_s, trv, if_neg (by omega), show ((n : Int) - 1 - (d : Int)).toNat = n - 1 - d by omega]
        · have e : lo g q n (d + 1) = lo g q n d := by rw [lo, if_neg (by omega)]
          rw [e, hs_k2 c, hs_k2 c, hs_k2 c, hs_k2 c]
          exact i1 q hq
set_option maxRecDepth 20000 in
set_option maxHeartbeats 1000000 in
theorem k_turnRound (l : Launch) (h g : jH) (R : Nat → Int) (hR : RS h 1 R) (n : Nat) (n64 : n ≤ 64) (hg : OG h 345 346 347 g n) (hs9 : OGs g R n) (ho : RL h 348 349 (coL g R n)) : cV l 46 [.ref 383, .ref 345, .ref 2, .ref 348] h (fun h' => OG h' 383 384 385 (TRN g R n) (R 5).toNat ∧ (∀ x, x ≠ 383 → x ≠ 384 → x ≠ 385 → h' x = h x)) := by
  have ok := hR.ok
  obtain ⟨k1, k2, k3, k4, k5, k6, k7⟩ := ok
  refine cV.of rfl rfl ?_
  refine tl_aload_n rfl rfl ?_
  refine tl_iconst rfl ?_
  refine tl_puti (c := 3) (k9 := 2) rfl rfl rfl rfl ?_
  refine tl_iconst rfl ?_
  refine tl_istore rfl (Nat.le_of_ble_eq_true rfl) rfl ?_
  show jT _ _ 8 _ _ _ _
  -- leaf 0 at 8
  refine k_tr_A l h g R hR n n64 hg hs9 ho _ (fun mem hi => ?_) _ 0 _ (Nat.lt_succ_self _) ⟨by omega, hs_s, fun q hq => absurd hq (by omega), fun x x1 x2 x3 => hs_O x1⟩
  obtain ⟨i9, i1, fr⟩ := hi
  refine tl_aload_n rfl rfl ?_
  refine tl_geti (c := 3) (k9 := 2) rfl rfl rfl ?_
  rw [fr 345 (by decide) (by decide) (by decide), hg.1]
  refine tl_iconst rfl ?_
  refine tl_isub rfl ?_
  refine tl_istore rfl (Nat.le_of_ble_eq_true rfl) rfl ?_
  show jT _ _ 42 _ _ _ _
  -- leaf 0 at 42
  refine jT.loc ?_ (k_tr_B l h g R hR n n64 hg hs9 ho _ (fun mem2 hz => ⟨rfl, hz⟩) _ 0 mem none (Nat.lt_succ_self _) ⟨Nat.zero_le _, i9, fun q hq => i1 q hq, fr⟩)
  rw [show (n : Int) - 1 - ((0 : Nat) : Int) = (n : Int) - 1 by omega]; rfl
set_option maxRecDepth 20000 in
set_option maxHeartbeats 1000000 in
theorem k_readFA (l : Launch) (h s : jH) (t k : Int) (hI : IC h s t) (hk : jr k) : cI l 196 [.ref 0, .int (jI k)] h (fun z h' => z = rfA (s 390) k ∧ IC h' (rfS s k) t ∧ (rfA (s 390) k = 0 → RDP h' (slL (s 390) k) ∧ RL h' 348 349 (coL (rG (slL (s 390) k)) (s 390) (rNs (slL (s 390) k)).toNat)) ∧ (∀ x, 0 < x → (x < 339 ∨ 355 < x) → h' x = h x) ∧ ∀ q, q ≠ 9 → h' 0 q = h 0 q) := by
  have k1 := hk.1
  have k2 := hk.2
  refine cI.of rfl rfl ?_
  refine tl_iload_n rfl rfl ?_
  refine tl_s1i (k_isSlot l _ k ⟨by omega, by omega⟩) rfl rfl rfl (Nat.le_of_ble_eq_true rfl) (fun zs hs9 ps => ?_)
  obtain ⟨qs, ps⟩ := ps
  have qs := qs.symm
  subst qs
  have bs : zs = 0 ∧ (k < 0 ∨ 2 < k) ∨ zs = 1 ∧ 0 ≤ k ∧ k ≤ 2 := by rw [ps]; split <;> omega
  refine tl_if_ne (tgt := 9) rfl rfl ⟨by omega, by omega⟩ (fun c1 => ?_) (fun c1 => ?_)
  · skip
    refine tl_aload_n rfl rfl ?_
    refine tl_iload_n rfl rfl ?_
    refine tl_v1i (c9 := 11) (k_isFull l _ _ hI.1 k ⟨by omega, by omega⟩) rfl rfl rfl rfl rfl (Nat.le_of_ble_eq_true rfl) (fun zf hf pf => ?_)
    obtain ⟨qf, pf⟩ := pf
    have qf := qf.symm
    subst qf
    have bf : zf = 0 ∧ s 390 (200 + 301 * k).toNat = -1 ∨ zf = 1 ∧ s 390 (200 + 301 * k).toNat ≠ -1 := by rw [pf]; by_cases c : s 390 (200 + 301 * k).toNat = -1; (rw [if_neg (by omega)]; omega); (rw [if_pos (by omega)]; omega)
    show jT _ _ 14 _ _ _ _
    refine tl_if_ne (tgt := 20) rfl rfl ⟨by omega, by omega⟩ (fun c2 => ?_) (fun c2 => ?_)
    · skip
      refine tl_aload_n rfl rfl ?_
      refine tl_aload_n rfl rfl ?_
      refine tl_getr (c := 11) (k9 := 13) (b := 339) rfl rfl rfl rfl ?_
      have hSa := RSs_S k.toNat (by omega)
      have sb1 := hI.sok.b (k := k) (by omega) (by omega) (by omega)
      refine tl_aload_n rfl rfl ?_
      refine tl_getr (c := 11) (k9 := 0) (b := 1) rfl rfl rfl rfl ?_
      refine tl_getr (c := 9) (k9 := 3) (b := 8) rfl rfl rfl rfl ?_
      show jT _ _ 32 _ _ _ _
      refine tl_iload_n rfl rfl ?_
      refine tl_aald (n := 3) rfl (Or.inl rfl) rfl (by omega) (by omega) (sr8 k.toNat (by omega)) ?_
      refine tl_aload_n rfl rfl ?_
      refine tl_getr (c := 11) (k9 := 0) (b := 1) rfl rfl rfl rfl ?_
      refine tl_getr (c := 9) (k9 := 0) (b := 2) rfl rfl rfl rfl ?_
      refine tl_iconst rfl ?_
      refine tl_v3i (c9 := 6) (k_read l hSa ⟨by omega, by omega⟩ h (s 390) hI.1 (slL (s 390) k) (hI.1.sl (by omega) (by omega) (by omega)) sb1.1 sb1.2.2.2 sb1.2.2.2 true) rfl rfl rfl rfl rfl (Nat.le_of_ble_eq_true rfl) (fun z1 h1 p1 => ?_)
      obtain ⟨e1, g1, f1⟩ := p1
      have rb1 := rdF_b (slL (s 390) k) true (s 390)
      subst e1
      show jT _ _ 45 _ _ _ _
      refine tl_puti (c := 11) (k9 := 9) rfl rfl rfl rfl ?_
      refine tl_aload_n rfl rfl ?_
      refine tl_geti (c := 11) (k9 := 9) rfl rfl rfl ?_
      rw [hs_s]
      refine tl_if_ne (tgt := 59) rfl rfl ⟨by omega, by omega⟩ (fun c3 => ?_) (fun c3 => ?_)
      · skip
        refine tl_bipush rfl rfl ?_
        refine tl_iret rfl ?_
        -- leaf 0 at 61
        refine ⟨_, rfl, ?_⟩
        have ea : rfA (s 390) k = -3 := by
          unfold rfA
          repeat (first | rw [if_pos (by omega)] | rw [if_neg (by omega)])
        have es : rfS s k = lat s (rdF (slL (s 390) k) true (s 390)) := by
          unfold rfS
          repeat (first | rw [if_pos (by omega)] | rw [if_neg (by omega)])
        rw [ea, es]
        refine ⟨rfl, hI.lat9 rb1 (fun x x0 hx => by rw [hs_O (by omega), f1 x (by omega)]) (fun q hq => by rw [hs_k hq, f1 0 (by omega)]) hs_s, fun w => absurd w (by decide), fun x x0 hx => by rw [hs_O (by omega), f1 x hx], fun q hq => by rw [hs_k hq, f1 0 (by omega)]⟩
      · show jT _ _ 55 _ _ _ _
        refine tl_iconst rfl ?_
        show jT _ _ 56 _ _ _ _
        refine tl_goto (tgt := 61) rfl rfl ?_
        refine tl_iret rfl ?_
        -- leaf 1 at 61
        have G1 := g1 (show (rdF (slL (s 390) k) true (s 390)) = 0 by omega)
        refine ⟨_, rfl, ?_⟩
        have ea : rfA (s 390) k = 0 := by
          unfold rfA
          repeat (first | rw [if_pos (by omega)] | rw [if_neg (by omega)])
        have es : rfS s k = lat s (rdF (slL (s 390) k) true (s 390)) := by
          unfold rfS
          repeat (first | rw [if_pos (by omega)] | rw [if_neg (by omega)])
        rw [ea, es]
        refine ⟨rfl, hI.lat9 rb1 (fun x x0 hx => by rw [hs_O (by omega), f1 x (by omega)]) (fun q hq => by rw [hs_k hq, f1 0 (by omega)]) hs_s, fun _ => ⟨G1.1.o9 (fun x x1 x2 => hs_O (by omega)), (G1.2 rfl).o9 (hs_O (by decide)) (hs_O (by decide))⟩, fun x x0 hx => by rw [hs_O (by omega), f1 x hx], fun q hq => by rw [hs_k hq, f1 0 (by omega)]⟩
    · show jT _ _ 17 _ _ _ _
      refine tl_bipush rfl rfl ?_
      refine tl_iret rfl ?_
      -- leaf 2 at 19
      refine ⟨_, rfl, ?_⟩
      have ea : rfA (s 390) k = -2 := by
        unfold rfA
        repeat (first | rw [if_pos (by omega)] | rw [if_neg (by omega)])
      have es : rfS s k = s := by
        unfold rfS
        by_cases c9 : k < 0 ∨ 2 < k
        · rw [if_pos c9]
        · rw [if_neg c9, if_pos (by omega)]
      rw [ea, es]
      exact ⟨rfl, hI, fun w => absurd w (by decide), fun _ _ _ => rfl, fun _ _ => rfl⟩
  · show jT _ _ 7 _ _ _ _
    refine tl_iconst rfl ?_
    refine tl_iret rfl ?_
    -- leaf 3 at 8
    refine ⟨_, rfl, ?_⟩
    have ea : rfA (s 390) k = -1 := by
      unfold rfA
      repeat (first | rw [if_pos (by omega)] | rw [if_neg (by omega)])
    have es : rfS s k = s := by
      unfold rfS
      by_cases c9 : k < 0 ∨ 2 < k
      · rw [if_pos c9]
      · rw [if_neg c9, if_pos (by omega)]
    rw [ea, es]
    exact ⟨rfl, hI, fun w => absurd w (by decide), fun _ _ _ => rfl, fun _ _ => rfl⟩
theorem rfA_b (R : Nat → Int) (k : Int) : -3 ≤ rfA R k ∧ rfA R k ≤ 0 := by unfold rfA; repeat (first | omega | split)
theorem rfA_c (R : Nat → Int) (k : Int) : (rfA R k = -1 ∧ (k < 0 ∨ 2 < k)) ∨ ((0 ≤ k ∧ k ≤ 2) ∧ ((rfA R k = -2 ∧ R (200 + 301 * k).toNat = -1) ∨ (R (200 + 301 * k).toNat ≠ -1 ∧ ((rfA R k = -3 ∧ rdF (slL R k) true R ≠ 0) ∨ (rfA R k = 0 ∧ rdF (slL R k) true R = 0))))) := by
  unfold rfA
  by_cases c : k < 0 ∨ 2 < k
  · rw [if_pos c]; exact Or.inl ⟨rfl, c⟩
  · rw [if_neg c]
    refine Or.inr ⟨by omega, ?_⟩
    by_cases d : R (200 + 301 * k).toNat = -1
    · rw [if_pos d]; exact Or.inl ⟨rfl, d⟩
    · rw [if_neg d]
      refine Or.inr ⟨d, ?_⟩
      by_cases e : rdF (slL R k) true R = 0
      · rw [if_neg (fun w => w e)]; exact Or.inr ⟨rfl, e⟩
      · rw [if_pos e]; exact Or.inl ⟨rfl, e⟩
theorem rfS_n {s : jH} {k : Int} (h : (k < 0 ∨ 2 < k) ∨ s 390 (200 + 301 * k).toNat = -1) : rfS s k = s := by
  unfold rfS
  by_cases c : k < 0 ∨ 2 < k
  · rw [if_pos c]
  · rw [if_neg c, if_pos (by omega)]
theorem rfS_l {s : jH} {k : Int} (h : 0 ≤ k ∧ k ≤ 2) (d : s 390 (200 + 301 * k).toNat ≠ -1) : rfS s k = lat s (rdF (slL (s 390) k) true (s 390)) := by
  unfold rfS
  rw [if_neg (by omega), if_neg d]
set_option maxRecDepth 20000 in
set_option maxHeartbeats 4000000 in
theorem k_turn (l : Launch) (h s : jH) (t ka kb : Int) (hI : IC h s t) (hka : jr ka) (hkb : jr kb) : cI l 153 [.ref 0, .int (jI ka), .int (jI kb)] h (PK h t (Dturn s ka kb)) := by
  have ka1 := hka.1
  have ka2 := hka.2
  have kb1 := hkb.1
  have kb2 := hkb.2
  refine cI.of rfl rfl ?_
  refine tl_iload_n rfl rfl ?_
  refine tl_s1i (k_isSlot l _ ka ⟨by omega, by omega⟩) rfl rfl rfl (Nat.le_of_ble_eq_true rfl) (fun zs1 hs1 ps1 => ?_)
  obtain ⟨qs1, ps1⟩ := ps1
  have qs1 := qs1.symm
  subst qs1
  have bs1 : zs1 = 0 ∧ (ka < 0 ∨ 2 < ka) ∨ zs1 = 1 ∧ 0 ≤ ka ∧ ka ≤ 2 := by rw [ps1]; split <;> omega
  refine tl_if_eq (tgt := 14) rfl rfl ⟨by omega, by omega⟩ (fun c1 => ?_) (fun c1 => ?_)
  · skip
    refine tl_aload_n rfl rfl ?_
    refine tl_iconst rfl ?_
    refine tl_v1i (c9 := 11) (k_refuse l _ _ (by omega) (by omega)) rfl rfl rfl rfl rfl (Nat.le_of_ble_eq_true rfl) (fun zr hr pr => ?_)
    obtain ⟨rfl, rfl⟩ := pr
    show jT _ _ 19 _ _ _ _
    refine tl_iret rfl ?_
    -- leaf 0 at 19
    refine ⟨_, rfl, ?_⟩
    rw [Dturn, if_pos (by omega)]
    exact PK.ref hI (by omega) (by omega)
  · show jT _ _ 7 _ _ _ _
    refine tl_iload_n rfl rfl ?_
    refine tl_s1i (k_isSlot l _ kb ⟨by omega, by omega⟩) rfl rfl rfl (Nat.le_of_ble_eq_true rfl) (fun zs2 hs2 ps2 => ?_)
    obtain ⟨qs2, ps2⟩ := ps2
    have qs2 := qs2.symm
    subst qs2
    have bs2 : zs2 = 0 ∧ (kb < 0 ∨ 2 < kb) ∨ zs2 = 1 ∧ 0 ≤ kb ∧ kb ≤ 2 := by rw [ps2]; split <;> omega
    refine tl_if_ne (tgt := 20) rfl rfl ⟨by omega, by omega⟩ (fun c2 => ?_) (fun c2 => ?_)
    · skip
      refine tl_aload_n rfl rfl ?_
      refine tl_iload_n rfl rfl ?_
      refine tl_v1i (c9 := 11) (k_readFA l _ s t ka hI ⟨by omega, by omega⟩) rfl rfl rfl rfl rfl (Nat.le_of_ble_eq_true rfl) (fun z1 h1 p1 => ?_)
      obtain ⟨e1, i1, g1, f1, f0⟩ := p1
      have rc := rfA_c (s 390) ka
      have rb := rfA_b (s 390) ka
      subst e1
      show jT _ _ 25 _ _ _ _
      refine tl_istore_n rfl (Nat.le_of_ble_eq_true rfl) rfl ?_
      refine tl_iload_n rfl rfl ?_
      refine tl_if_eq (tgt := 36) rfl rfl ⟨by omega, by omega⟩ (fun c3 => ?_) (fun c3 => ?_)
      · skip
        have z0 : rfA (s 390) ka = 0 := by omega
        have zr : rdF (slL (s 390) ka) true (s 390) = 0 := by omega
        have G1 := g1 z0
        rw [rfS_l (by omega) (by omega), zr] at i1
        have sb1 := hI.sok.b (k := ka) (by omega) (by omega) (by omega)
        have A := rdA sb1.1 sb1.2.2.2 zr
        have An := A.2.2.1
        have Af := A.2.2.2.2.2.2 rfl
        have hR1 : RS h1 1 (s 390) := by have := i1.1; rw [lat_390] at this; exact this
        have jb := TUL_b (R := s 390) (a := ka) hI.ok sb1.1 sb1.2.2.2 zr
        have ok := hI.ok
        have ok5 := ok.1
        have ok6 := ok.2.1
        refine tl_aload_n rfl rfl ?_
        refine tl_getr (c := 11) (k9 := 18) (b := 383) rfl rfl rfl rfl ?_
        refine tl_aload_n rfl rfl ?_
        refine tl_getr (c := 11) (k9 := 13) (b := 339) rfl rfl rfl rfl ?_
        show jT _ _ 44 _ _ _ _
        refine tl_getr (c := 6) (k9 := 10) (b := 345) rfl rfl rfl rfl ?_
        refine tl_aload_n rfl rfl ?_
        refine tl_getr (c := 11) (k9 := 0) (b := 1) rfl rfl rfl rfl ?_
        refine tl_getr (c := 9) (k9 := 0) (b := 2) rfl rfl rfl rfl ?_
        refine tl_aload_n rfl rfl ?_
        refine tl_getr (c := 11) (k9 := 13) (b := 339) rfl rfl rfl rfl ?_
        refine tl_getr (c := 6) (k9 := 11) (b := 348) rfl rfl rfl rfl ?_
        show jT _ _ 61 _ _ _ _
        refine tl_v3v (c9 := 3) (k_turnRound l h1 (rG (slL (s 390) ka)) (s 390) hR1 (rNs (slL (s 390) ka)).toNat (by omega) G1.1.2.2.1 Af.2.2.1 G1.2) rfl rfl rfl rfl rfl (Nat.le_of_ble_eq_true rfl) (fun h2 p2 => ?_)
        obtain ⟨g2, f2⟩ := p2
        have ho2 : RL h2 348 349 (coL (rG (slL (s 390) ka)) (s 390) (rNs (slL (s 390) ka)).toNat) := G1.2.o9 (f2 _ (by decide) (by decide) (by decide)) (f2 _ (by decide) (by decide) (by decide))
        have hR2 : RS h2 1 (s 390) := hR1.of (fun x x1 x2 => f2 x (by omega) (by omega) (by omega))
        refine tl_aload_n rfl rfl ?_
        refine tl_getr (c := 11) (k9 := 12) (b := 328) rfl rfl rfl rfl ?_
        refine tl_aload_n rfl rfl ?_
        refine tl_getr (c := 11) (k9 := 18) (b := 383) rfl rfl rfl rfl ?_
        refine tl_aload_n rfl rfl ?_
        refine tl_getr (c := 11) (k9 := 13) (b := 339) rfl rfl rfl rfl ?_
        show jT _ _ 76 _ _ _ _
        refine tl_getr (c := 6) (k9 := 11) (b := 348) rfl rfl rfl rfl ?_
        refine tl_geti (c := 8) (k9 := 1) rfl rfl rfl ?_
        rw [ho2.1, coL_len, show (((rNs (slL (s 390) ka)).toNat : Nat) : Int) = rNs (slL (s 390) ka) by omega]
        refine tl_aload_n rfl rfl ?_
        refine tl_getr (c := 11) (k9 := 13) (b := 339) rfl rfl rfl rfl ?_
        refine tl_getr (c := 6) (k9 := 11) (b := 348) rfl rfl rfl rfl ?_
        refine tl_v0i (c9 := 8) (c_Row_checkAll l R348 h2 (by rw [ho2.1]; omega) (by rw [ho2.1, coL_len]; omega) (fun i hi => by rw [ho2.1] at hi; rw [ho2.2 i (by omega)]; have q := (coL_B Af.2.2.1 _ (Nat.le_refl _)).gd (i := i) (by omega); exact ⟨q.1, by have := q.2; omega⟩)) rfl rfl rfl rfl rfl (Nat.le_of_ble_eq_true rfl) (fun z3 h3 p3 => ?_)
        obtain ⟨q3, p3⟩ := p3
        have q3 := q3.symm
        subst q3
        have ec3 : z3 = rNc (slL (s 390) ka) := by
          rw [p3, ho2.1, Int.toNat_natCast]
          exact (ckF_congr _ (fun i hi => ho2.2 i hi)).trans Af.2.2.2
        subst ec3
        refine tl_aload_n rfl rfl ?_
        show jT _ _ 93 _ _ _ _
        refine tl_getr (c := 11) (k9 := 0) (b := 1) rfl rfl rfl rfl ?_
        refine tl_getr (c := 9) (k9 := 0) (b := 2) rfl rfl rfl rfl ?_
        refine tl_v0i (c9 := 8) (c_Row_checkAll l (RSf_S 0 (by decide)) h2 (by show 0 ≤ h2 2 1; rw [hR2.o5]; omega) (by show h2 2 1 ≤ _; rw [hR2.o5]; omega) (fun i hi => by have hi2 : (i : Int) < h2 2 1 := hi; rw [hR2.o5] at hi2; have q := (hR2.1 0 (by decide)).2.2.2 i hi2; exact ⟨by show 0 ≤ h2 3 i; have e : h2 3 i = s 390 (5 + 65 * 0 + 1 + i) := q.1; have := q.2.1; omega, by show h2 3 i < _; have e : h2 3 i = s 390 (5 + 65 * 0 + 1 + i) := q.1; have := q.2.2; omega⟩)) rfl rfl rfl rfl rfl (Nat.le_of_ble_eq_true rfl) (fun z4 h4 p4 => ?_)
        obtain ⟨q4, p4⟩ := p4
        have q4 := q4.symm
        subst q4
        have ec4 : z4 = ckO (s 390) := by
          rw [p4]
          show ckF (h2 3) (h2 2 1).toNat = _
          rw [hR2.o5]
          show _ = ckF (fun i => s 390 (6 + i)) (s 390 5).toNat
          refine ckF_congr _ (fun i hi => ?_)
          have e : h2 3 i = s 390 (5 + 65 * 0 + 1 + i) := ((hR2.1 0 (by decide)).2.2.2 i (by show (i : Int) < s 390 5; omega)).1
          exact e.trans (congrArg (s 390) (by omega))
        subst ec4
        refine tl_v4i (c9 := 4) (k_pack l Or383 ⟨by decide, by decide, by decide⟩ h2 (TRN (rG (slL (s 390) ka)) (s 390) (rNs (slL (s 390) ka)).toNat) (s 390 5).toNat g2 jb.1 (rNs (slL (s 390) ka)) (rNc (slL (s 390) ka)) (ckO (s 390)) A.2.2.1 (by have := A.2.2.2.1; omega) ckO_b) rfl rfl rfl rfl rfl (Nat.le_of_ble_eq_true rfl) (fun z5 h5 p5 => ?_)
        obtain ⟨e5, k5, f5⟩ := p5
        have ic5 : IC h5 (lat s 0) t := KF.ic (KF.of (fun x hx => by rw [f5 x (by omega), f2 x (by omega) (by omega) (by omega)])) i1
        refine tl_pop rfl rfl ?_
        refine tl_aload_n rfl rfl ?_
        refine tl_bipush rfl rfl ?_
        show jT _ _ 109 _ _ _ _
        refine tl_iload_n rfl rfl ?_
        refine tl_v2i (c9 := 11) (k_keepMade l h5 (lat s 0) t 10 kb ic5 (by omega) (by omega) (by omega) (by omega) (TUL (s 390) ka) k5 (by omega) (by omega) jb.2.2.2) rfl rfl rfl rfl rfl (Nat.le_of_ble_eq_true rfl) (fun z6 h6 p6 => ?_)
        refine tl_iret rfl ?_
        -- leaf 1 at 113
        refine ⟨_, rfl, ?_⟩
        rw [Dturn]
        repeat (first | rw [if_pos (by omega)] | rw [if_neg (by omega)])
        exact p6.from9 (fun x hx => by rw [f5 x (by omega), f2 x (by omega) (by omega) (by omega), f1 x (by omega) (by omega)])
      · show jT _ _ 30 _ _ _ _
        refine tl_aload_n rfl rfl ?_
        refine tl_iload_n rfl rfl ?_
        refine tl_v1i (c9 := 11) (k_refuse l _ _ (by omega) (by omega)) rfl rfl rfl rfl rfl (Nat.le_of_ble_eq_true rfl) (fun zr hr pr => ?_)
        obtain ⟨rfl, rfl⟩ := pr
        refine tl_iret rfl ?_
        -- leaf 2 at 35
        refine ⟨_, rfl, ?_⟩
        rcases rc with rc | ⟨rk, rc | ⟨rd, rc | rc⟩⟩
        · exfalso; omega
        · rw [Dturn, if_neg (by omega), if_pos (by omega)]
          rw [rfS_n (Or.inr (by omega))] at i1
          rw [rc.1]
          exact (PK.ref i1 (by omega) (by omega)).from9 (fun x hx => f1 x (by omega) (by omega))
        · rw [Dturn, if_neg (by omega), if_neg (by omega), if_pos rc.2]
          rw [rfS_l rk rd] at i1
          rw [rc.1]
          exact (PK.ref i1 (by omega) (by omega)).from9 (fun x hx => f1 x (by omega) (by omega))
        · exfalso; omega
    · show jT _ _ 14 _ _ _ _
      show jT _ _ 14 _ _ _ _
      refine tl_aload_n rfl rfl ?_
      refine tl_iconst rfl ?_
      refine tl_v1i (c9 := 11) (k_refuse l _ _ (by omega) (by omega)) rfl rfl rfl rfl rfl (Nat.le_of_ble_eq_true rfl) (fun zr hr pr => ?_)
      obtain ⟨rfl, rfl⟩ := pr
      refine tl_iret rfl ?_
      -- leaf 3 at 19
      refine ⟨_, rfl, ?_⟩
      rw [Dturn, if_pos (by omega)]
      exact PK.ref hI (by omega) (by omega)
