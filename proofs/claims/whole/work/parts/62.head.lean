/-! a patch read: its check, its head, of the walked file -/
theorem R350 : RowS 350 351 300 := ⟨rfl, rfl, rfl, rfl⟩
theorem R352 : RowS 352 353 64 := ⟨rfl, rfl, rfl, rfl⟩
theorem R354 : RowS 354 355 64 := ⟨rfl, rfl, rfl, rfl⟩
theorem R348 : RowS 348 349 64 := ⟨rfl, rfl, rfl, rfl⟩
def TB (V : List Int) : Nat → Int := fun i => V.getD i 0
def ckf (V : List Int) : Int := if V.length < 2 then 1 else if V.getD (V.length - 2) 0 * 256 + V.getD (V.length - 1) 0 = ckF (TB V) (V.length - 2) then 0 else 2
theorem TB_b {V : List Int} (hV : LB V) {n : Nat} (hn : n ≤ V.length) : BB (TB V) n := fun i hi => hV.gd (by omega)
def hd1 (B : Nat → Int) (N : Nat) : Int × Nat := rn B N 0
def hd2 (B : Nat → Int) (N : Nat) : Int × Nat := rn B N (hd1 B N).2
def hd3 (B : Nat → Int) (N : Nat) : Int × Nat := rn B N (hd2 B N).2
def hd4 (B : Nat → Int) (N : Nat) : Int × Nat := rn B N (hd3 B N).2
def hd5 (B : Nat → Int) (N : Nat) : Int × Nat := rn B N (hd4 B N).2
def hdF (B : Nat → Int) (N : Nat) (fo : Bool) (R : Nat → Int) : Int := if (hd1 B N).1 < 0 then 3 else if 64 < (hd1 B N).1 then 5 else if (hd2 B N).1 < 0 then 3 else if zb fo = 1 ∧ ((hd1 B N).1 ≠ R 5 ∨ (hd2 B N).1 ≠ ckO R) then 4 else if (hd3 B N).1 < 0 then 3 else if 64 < (hd3 B N).1 then 5 else if (hd4 B N).1 < 0 ∨ (hd5 B N).1 < 0 then 3 else 0
theorem hd_b {B : Nat → Int} {N : Nat} (hB : BB B N) : ((-1 ≤ (hd1 B N).1 ∧ (hd1 B N).1 ≤ 16383) ∧ (hd1 B N).2 ≤ N ∧ (0 ≤ (hd1 B N).1 → 1 ≤ (hd1 B N).2)) ∧ ((-1 ≤ (hd2 B N).1 ∧ (hd2 B N).1 ≤ 16383) ∧ (hd2 B N).2 ≤ N ∧ (0 ≤ (hd2 B N).1 → (hd1 B N).2 + 1 ≤ (hd2 B N).2)) ∧ ((-1 ≤ (hd3 B N).1 ∧ (hd3 B N).1 ≤ 16383) ∧ (hd3 B N).2 ≤ N ∧ (0 ≤ (hd3 B N).1 → (hd2 B N).2 + 1 ≤ (hd3 B N).2)) ∧ ((-1 ≤ (hd4 B N).1 ∧ (hd4 B N).1 ≤ 16383) ∧ (hd4 B N).2 ≤ N ∧ (0 ≤ (hd4 B N).1 → (hd3 B N).2 + 1 ≤ (hd4 B N).2)) ∧ ((-1 ≤ (hd5 B N).1 ∧ (hd5 B N).1 ≤ 16383) ∧ (hd5 B N).2 ≤ N ∧ (0 ≤ (hd5 B N).1 → (hd4 B N).2 + 1 ≤ (hd5 B N).2)) := by
  obtain ⟨a1, a2, a3, a4⟩ := rn_b (p := 0) hB (Nat.zero_le _)
  obtain ⟨b1, b2, b3, b4⟩ := rn_b hB a3
  obtain ⟨c1, c2, c3, c4⟩ := rn_b hB b3
  obtain ⟨d1, d2, d3, d4⟩ := rn_b hB c3
  obtain ⟨e1, e2, e3, e4⟩ := rn_b hB d3
  exact ⟨⟨a1, a3, fun h => by have := a4 h; show 1 ≤ (rn B N 0).2; omega⟩, ⟨b1, b3, b4⟩, ⟨c1, c3, c4⟩, ⟨d1, d3, d4⟩, ⟨e1, e3, e4⟩⟩
set_option maxRecDepth 20000 in
set_option maxHeartbeats 1000000 in
theorem k_checkFlaw (l : Launch) (h : jH) (V : List Int) (kV : RL h 350 351 V) (hV : LB V) (v3 : V.length ≤ 300) : cI l 67 [.ref 339] h (fun z h' => z = ckf V ∧ (ckf V = 0 → RDK h' (TB V) (V.length - 2) 0) ∧ (∀ x, x ≠ 339 → h' x = h x) ∧ ∀ q, q < 16 → h' 339 q = h 339 q) := by
  have e1 := kV.1
  have e2 := kV.2
  refine cI.of rfl rfl ?_
  refine tl_aload_n rfl rfl ?_
  refine tl_iconst rfl ?_
  refine tl_puti (c := 6) (k9 := 16) rfl rfl rfl rfl ?_
  refine tl_aload_n rfl rfl ?_
  refine tl_aload_n rfl rfl ?_
  refine tl_getr (c := 6) (k9 := 12) (b := 350) rfl rfl rfl rfl ?_
  show jT _ _ 10 _ _ _ _
  refine tl_geti (c := 8) (k9 := 1) rfl rfl rfl ?_
  rw [hs_o (by decide), e1]
  refine tl_iconst rfl ?_
  refine tl_isub rfl ?_
  refine tl_puti (c := 6) (k9 := 17) rfl rfl rfl rfl ?_
  generalize gH : hs (hs h 339 16 0) 339 17 ((V.length : Int) - 2) = H2
  have g0 : H2 339 17 = (V.length : Int) - 2 := by rw [← gH, hs_s]
  have g9 : H2 339 16 = 0 := by rw [← gH, hs_k (by decide), hs_s]
  have g1 : H2 350 1 = (V.length : Int) := by rw [← gH, hs_o (by decide), hs_o (by decide)]; exact e1
  have g2 : ∀ i, i < V.length → H2 351 i = V.getD i 0 := fun i hi => by rw [← gH, hs_o (by decide), hs_o (by decide)]; exact e2 i hi
  have g3 : (∀ x, x ≠ 339 → H2 x = h x) ∧ ∀ q, q < 16 → H2 339 q = h 339 q := ⟨fun x hx => by rw [← gH, hs_O hx, hs_O hx], fun q hq => by rw [← gH, hs_k (by omega), hs_k (by omega)]⟩
  refine tl_aload_n rfl rfl ?_
  refine tl_geti (c := 6) (k9 := 17) rfl rfl rfl ?_
  rw [g0]
  refine tl_if_ge (tgt := 27) rfl rfl ⟨by omega, by omega⟩ (fun c1 => ?_) (fun c1 => ?_)
  · skip
    show jT _ _ 27 _ _ _ _
    refine tl_aload_n rfl rfl ?_
    refine tl_getr (c := 6) (k9 := 12) (b := 350) rfl rfl rfl rfl ?_
    refine tl_aload_n rfl rfl ?_
    refine tl_geti (c := 6) (k9 := 17) rfl rfl rfl ?_
    rw [g0]
    refine tl_v1i (c9 := 8) (c_Row_get l R350 H2 ((V.length : Int) - 2) (by rw [g1]; omega) (by rw [g1]; omega) ⟨by omega, by omega⟩) rfl rfl rfl rfl rfl (Nat.le_of_ble_eq_true rfl) (fun z1 h1 p1 => ?_)
    obtain ⟨q1, p1⟩ := p1
    have q1 := q1.symm
    subst q1
    rw [g1, if_pos (by omega), show ((V.length : Int) - 2).toNat = V.length - 2 by omega, g2 _ (by omega)] at p1
    have vb1 := hV.gd (i := V.length - 2) (by omega)
    have va1 := vb1.1
    have vc1 := vb1.2
    refine tl_sipush rfl rfl ?_
    refine tl_imul rfl ?_
    show jT _ _ 42 _ _ _ _
    refine tl_aload_n rfl rfl ?_
    refine tl_getr (c := 6) (k9 := 12) (b := 350) rfl rfl rfl rfl ?_
    refine tl_aload_n rfl rfl ?_
    refine tl_geti (c := 6) (k9 := 17) rfl rfl rfl ?_
    rw [g0]
    refine tl_iconst rfl ?_
    refine tl_iadd rfl ?_
    refine tl_v1i (c9 := 8) (c_Row_get l R350 H2 ((V.length : Int) - 2 + 1) (by rw [g1]; omega) (by rw [g1]; omega) ⟨by omega, by omega⟩) rfl rfl rfl rfl rfl (Nat.le_of_ble_eq_true rfl) (fun z2 h2 p2 => ?_)
    obtain ⟨q2, p2⟩ := p2
    have q2 := q2.symm
    subst q2
    rw [g1, if_pos (by omega), show ((V.length : Int) - 2 + 1).toNat = V.length - 1 by omega, g2 _ (by omega)] at p2
    have vb2 := hV.gd (i := V.length - 1) (by omega)
    have va2 := vb2.1
    have vc2 := vb2.2
    show jT _ _ 55 _ _ _ _
    refine tl_iadd rfl ?_
    refine tl_istore_n rfl (Nat.le_of_ble_eq_true rfl) rfl ?_
    refine tl_iload_n rfl rfl ?_
    refine tl_aload_n rfl rfl ?_
    refine tl_getr (c := 6) (k9 := 12) (b := 350) rfl rfl rfl rfl ?_
    refine tl_aload_n rfl rfl ?_
    refine tl_geti (c := 6) (k9 := 17) rfl rfl rfl ?_
    rw [g0]
    show jT _ _ 66 _ _ _ _
    refine tl_v1i (c9 := 8) (c_Row_check l R350 H2 ((V.length : Int) - 2) ⟨by omega, by omega⟩ (by rw [g1]; omega) (by rw [g1]; omega) (fun i hi => by rw [g1] at hi; rw [g2 i (by omega)]; have q := hV.gd (i := i) (by omega); exact ⟨q.1, by have := q.2; omega⟩)) rfl rfl rfl rfl rfl (Nat.le_of_ble_eq_true rfl) (fun z3 h3 p3 => ?_)
    obtain ⟨q3, p3⟩ := p3
    have q3 := q3.symm
    subst q3
    rw [g1, show min ((V.length : Int) - 2).toNat ((V.length : Int)).toNat = V.length - 2 by omega, ckF_congr (g := TB V) _ (fun i hi => g2 i (by omega))] at p3
    have cb := ckF_b (TB V) (V.length - 2)
    refine tl_icmp_ne (tgt := 76) rfl rfl ⟨by omega, by omega⟩ ⟨by omega, by omega⟩ (fun c2 => ?_) (fun c2 => ?_)
    · skip
      refine tl_iconst rfl ?_
      refine tl_iret rfl ?_
      -- leaf 0 at 77
      have ef : ckf V = if V.getD (V.length - 2) 0 * 256 + V.getD (V.length - 1) 0 = ckF (TB V) (V.length - 2) then 0 else 2 := by rw [ckf, if_neg (by omega)]
      refine ⟨_, rfl, ?_, fun h0 => ⟨g9, by rw [g0]; omega, fun i hi => g2 i (by omega), TB_b hV (by omega), by omega, Nat.zero_le _⟩, g3⟩
      rw [ef]
      first | rw [if_pos (by omega)] | rw [if_neg (by omega)]
    · show jT _ _ 72 _ _ _ _
      refine tl_iconst rfl ?_
      refine tl_goto (tgt := 77) rfl rfl ?_
      refine tl_iret rfl ?_
      -- leaf 1 at 77
      have ef : ckf V = if V.getD (V.length - 2) 0 * 256 + V.getD (V.length - 1) 0 = ckF (TB V) (V.length - 2) then 0 else 2 := by rw [ckf, if_neg (by omega)]
      refine ⟨_, rfl, ?_, fun h0 => ⟨g9, by rw [g0]; omega, fun i hi => g2 i (by omega), TB_b hV (by omega), by omega, Nat.zero_le _⟩, g3⟩
      rw [ef]
      first | rw [if_pos (by omega)] | rw [if_neg (by omega)]
  · show jT _ _ 25 _ _ _ _
    show jT _ _ 25 _ _ _ _
    refine tl_iconst rfl ?_
    refine tl_iret rfl ?_
    -- leaf 2 at 26
    refine ⟨_, rfl, ?_, fun h0 => ?_, g3⟩
    · rw [ckf, if_pos (by omega)]
    · rw [ckf, if_pos (by omega)] at h0; omega
set_option maxRecDepth 20000 in
set_option maxHeartbeats 1000000 in
theorem k_headFlaw (l : Launch) (h : jH) (R : Nat → Int) (hR : RS h 1 R) (B : Nat → Int) (N : Nat) (k0 : RDK h B N 0) (fo : Bool) : cI l 70 [.ref 339, .ref 2, .int (jI (zb fo))] h (fun z h' => z = hdF B N fo R ∧ ((∀ x, x ≠ 339 → h' x = h x) ∧ ∀ q, 5 ≤ q → q ≠ 16 → h' 339 q = h 339 q) ∧ (hdF B N fo R = 0 → h' 339 0 = (hd1 B N).1 ∧ h' 339 1 = (hd2 B N).1 ∧ h' 339 2 = (hd3 B N).1 ∧ h' 339 3 = (hd4 B N).1 ∧ h' 339 4 = (hd5 B N).1 ∧ RDK h' B N (hd5 B N).2)) := by
  have ok := hR.ok
  obtain ⟨k1, k2, k3, k4, k5, k6, k7⟩ := ok
  obtain ⟨b1, b2, b3, b4, b5⟩ := hd_b k0.2.2.2.1
  have fb := zb_b fo
  have fz : (fo = true ∧ zb fo = 1) ∨ (fo = false ∧ zb fo = 0) := by cases fo; exact Or.inr ⟨rfl, rfl⟩; exact Or.inl ⟨rfl, rfl⟩
  refine cI.of rfl rfl ?_
  refine tl_aload_n rfl rfl ?_
  refine tl_aload_n rfl rfl ?_
  refine tl_v0i (c9 := 6) (k_nextNum l h B N 0 k0) rfl rfl rfl rfl rfl (Nat.le_of_ble_eq_true rfl) (fun z1 h1 p1 => ?_)
  obtain ⟨e1, k1, f1⟩ := p1
  refine tl_puti (c := 6) (k9 := 0) rfl rfl rfl rfl ?_
  have d1 : z1 = (hd1 B N).1 := e1
  clear e1
  subst d1
  generalize g1 : hs h1 339 0 (hd1 B N).1 = m1
  have r1 : RDK m1 B N (hd1 B N).2 := k1.at' (fun q hq => by rw [← g1, hs_k (by omega)]) (by rw [← g1, hs_O (by decide)])
  have s1 : m1 339 0 = (hd1 B N).1 := by rw [← g1, hs_s]
  have t1 : (∀ x, x ≠ 339 → m1 x = h1 x) ∧ ∀ q, q ≠ 0 → m1 339 q = h1 339 q := ⟨fun x hx => by rw [← g1, hs_O hx], fun q hq => by rw [← g1, hs_k hq]⟩
  refine tl_aload_n rfl rfl ?_
  refine tl_geti (c := 6) (k9 := 0) rfl rfl rfl ?_
  rw [s1]
  show jT _ _ 12 _ _ _ _
  refine tl_if_ge (tgt := 17) rfl rfl ⟨by omega, by omega⟩ (fun c1 => ?_) (fun c1 => ?_)
  · skip
    refine tl_aload_n rfl rfl ?_
    refine tl_geti (c := 6) (k9 := 0) rfl rfl rfl ?_
    rw [s1]
    refine tl_bipush rfl rfl ?_
    refine tl_icmp_le (tgt := 28) rfl rfl ⟨by omega, by omega⟩ ⟨by omega, by omega⟩ (fun c2 => ?_) (fun c2 => ?_)
    · skip
      refine tl_aload_n rfl rfl ?_
      refine tl_aload_n rfl rfl ?_
      show jT _ _ 30 _ _ _ _
      refine tl_v0i (c9 := 6) (k_nextNum l m1 B N (hd1 B N).2 r1) rfl rfl rfl rfl rfl (Nat.le_of_ble_eq_true rfl) (fun z2 h2 p2 => ?_)
      obtain ⟨e2, k2, f2⟩ := p2
      refine tl_puti (c := 6) (k9 := 1) rfl rfl rfl rfl ?_
      have d2 : z2 = (hd2 B N).1 := e2
      clear e2
      subst d2
      generalize g2 : hs h2 339 1 (hd2 B N).1 = m2
      have r2 : RDK m2 B N (hd2 B N).2 := k2.at' (fun q hq => by rw [← g2, hs_k (by omega)]) (by rw [← g2, hs_O (by decide)])
      have s2 : m2 339 1 = (hd2 B N).1 := by rw [← g2, hs_s]
      have t2 : (∀ x, x ≠ 339 → m2 x = h2 x) ∧ ∀ q, q ≠ 1 → m2 339 q = h2 339 q := ⟨fun x hx => by rw [← g2, hs_O hx], fun q hq => by rw [← g2, hs_k hq]⟩
      have hRm : RS m2 1 R := hR.of (fun x x1 x2 => by rw [t2.1 x (by omega), f2.1 x (by omega), t1.1 x (by omega), f1.1 x (by omega)])
      have o5 := hRm.o5
      have s21 : m2 339 0 = (hd1 B N).1 := by rw [t2.2 0 (by decide), f2.2 0 (by decide)]; exact s1
      have cke : ∀ i : Nat, (i : Int) < R 5 → m2 3 i = R (6 + i) := fun i hi => by have q := ((hRm.1 0 (by decide)).2.2.2 i hi).1; rw [show 5 + 65 * 0 + 1 + i = 6 + i by omega] at q; exact q
      have cka : ∀ i : Nat, (i : Int) < m2 (2 + 2 * 0) 1 → 0 ≤ m2 (3 + 2 * 0) i ∧ m2 (3 + 2 * 0) i < 100000 := fun i hi => by have hi2 : (i : Int) < m2 2 1 := hi; have q := cke i (by omega); have b := (hRm.ok).2.2.2.2.1 i (by omega); have b1 := b.1; have b2 := b.2; exact ⟨by show 0 ≤ m2 3 i; omega, by show m2 3 i < _; omega⟩
      refine tl_aload_n rfl rfl ?_
      refine tl_geti (c := 6) (k9 := 1) rfl rfl rfl ?_
      rw [s2]
      refine tl_if_ge (tgt := 45) rfl rfl ⟨by omega, by omega⟩ (fun c3 => ?_) (fun c3 => ?_)
      · skip
        refine tl_iload_n rfl rfl ?_
        refine tl_if_eq (tgt := 73) rfl rfl ⟨by omega, by omega⟩ (fun c4 => ?_) (fun c4 => ?_)
        · skip
          show jT _ _ 73 _ _ _ _
          refine tl_aload_n rfl rfl ?_
          refine tl_aload_n rfl rfl ?_
          refine tl_v0i (c9 := 6) (k_nextNum l m2 B N (hd2 B N).2 r2) rfl rfl rfl rfl rfl (Nat.le_of_ble_eq_true rfl) (fun z3 h3 p3 => ?_)
          obtain ⟨e3, k3, f3⟩ := p3
          refine tl_puti (c := 6) (k9 := 2) rfl rfl rfl rfl ?_
          have d3 : z3 = (hd3 B N).1 := e3
          clear e3
          subst d3
          generalize g3 : hs h3 339 2 (hd3 B N).1 = m3
          have r3 : RDK m3 B N (hd3 B N).2 := k3.at' (fun q hq => by rw [← g3, hs_k (by omega)]) (by rw [← g3, hs_O (by decide)])
          have s3 : m3 339 2 = (hd3 B N).1 := by rw [← g3, hs_s]
          have t3 : (∀ x, x ≠ 339 → m3 x = h3 x) ∧ ∀ q, q ≠ 2 → m3 339 q = h3 339 q := ⟨fun x hx => by rw [← g3, hs_O hx], fun q hq => by rw [← g3, hs_k hq]⟩
          refine tl_aload_n rfl rfl ?_
          refine tl_geti (c := 6) (k9 := 2) rfl rfl rfl ?_
          rw [s3]
          refine tl_if_ge (tgt := 90) rfl rfl ⟨by omega, by omega⟩ (fun c5 => ?_) (fun c5 => ?_)
          · skip
            show jT _ _ 90 _ _ _ _
            refine tl_aload_n rfl rfl ?_
            refine tl_geti (c := 6) (k9 := 2) rfl rfl rfl ?_
            rw [s3]
            refine tl_bipush rfl rfl ?_
            refine tl_icmp_le (tgt := 101) rfl rfl ⟨by omega, by omega⟩ ⟨by omega, by omega⟩ (fun c6 => ?_) (fun c6 => ?_)
            · skip
              refine tl_aload_n rfl rfl ?_
              refine tl_aload_n rfl rfl ?_
              refine tl_v0i (c9 := 6) (k_nextNum l m3 B N (hd3 B N).2 r3) rfl rfl rfl rfl rfl (Nat.le_of_ble_eq_true rfl) (fun z4 h4 p4 => ?_)
              obtain ⟨e4, k4, f4⟩ := p4
              show jT _ _ 106 _ _ _ _
              refine tl_puti (c := 6) (k9 := 3) rfl rfl rfl rfl ?_
              have d4 : z4 = (hd4 B N).1 := e4
              clear e4
              subst d4
              generalize g4 : hs h4 339 3 (hd4 B N).1 = m4
              have r4 : RDK m4 B N (hd4 B N).2 := k4.at' (fun q hq => by rw [← g4, hs_k (by omega)]) (by rw [← g4, hs_O (by decide)])
              have s4 : m4 339 3 = (hd4 B N).1 := by rw [← g4, hs_s]
              have t4 : (∀ x, x ≠ 339 → m4 x = h4 x) ∧ ∀ q, q ≠ 3 → m4 339 q = h4 339 q := ⟨fun x hx => by rw [← g4, hs_O hx], fun q hq => by rw [← g4, hs_k hq]⟩
              refine tl_aload_n rfl rfl ?_
              refine tl_aload_n rfl rfl ?_
              refine tl_v0i (c9 := 6) (k_nextNum l m4 B N (hd4 B N).2 r4) rfl rfl rfl rfl rfl (Nat.le_of_ble_eq_true rfl) (fun z5 h5 p5 => ?_)
              obtain ⟨e5, k5, f5⟩ := p5
              refine tl_puti (c := 6) (k9 := 4) rfl rfl rfl rfl ?_
              have d5 : z5 = (hd5 B N).1 := e5
              clear e5
              subst d5
              generalize g5 : hs h5 339 4 (hd5 B N).1 = m5
              have r5 : RDK m5 B N (hd5 B N).2 := k5.at' (fun q hq => by rw [← g5, hs_k (by omega)]) (by rw [← g5, hs_O (by decide)])
              have s5 : m5 339 4 = (hd5 B N).1 := by rw [← g5, hs_s]
              have t5 : (∀ x, x ≠ 339 → m5 x = h5 x) ∧ ∀ q, q ≠ 4 → m5 339 q = h5 339 q := ⟨fun x hx => by rw [← g5, hs_O hx], fun q hq => by rw [← g5, hs_k hq]⟩
              have s54 : m5 339 3 = (hd4 B N).1 := by rw [t5.2 3 (by decide), f5.2 3 (by decide)]; exact s4
              have s53 : m5 339 2 = (hd3 B N).1 := by rw [t5.2 2 (by decide), f5.2 2 (by decide), t4.2 2 (by decide), f4.2 2 (by decide)]; exact s3
              have s52 : m5 339 1 = (hd2 B N).1 := by rw [t5.2 1 (by decide), f5.2 1 (by decide), t4.2 1 (by decide), f4.2 1 (by decide), t3.2 1 (by decide), f3.2 1 (by decide)]; exact s2
              have s51 : m5 339 0 = (hd1 B N).1 := by rw [t5.2 0 (by decide), f5.2 0 (by decide), t4.2 0 (by decide), f4.2 0 (by decide), t3.2 0 (by decide), f3.2 0 (by decide)]; exact s21
              refine tl_aload_n rfl rfl ?_
              refine tl_geti (c := 6) (k9 := 3) rfl rfl rfl ?_
              rw [s54]
              show jT _ _ 121 _ _ _ _
              refine tl_if_lt (tgt := 131) rfl rfl ⟨by omega, by omega⟩ (fun c7 => ?_) (fun c7 => ?_)
              · skip
                refine tl_iconst rfl ?_
                refine tl_goto (tgt := 136) rfl rfl ?_
                refine tl_iret rfl ?_
                -- leaf 0 at 136
                first
                  | (refine ⟨_, rfl, ?_, ⟨fun x hx => by rw [t5.1 x hx, f5.1 x hx, t4.1 x hx, f4.1 x hx, t3.1 x hx, f3.1 x hx, t2.1 x hx, f2.1 x hx, t1.1 x hx, f1.1 x hx], fun q hq hq2 => by rw [t5.2 q (by omega), f5.2 q (by omega), t4.2 q (by omega), f4.2 q (by omega), t3.2 q (by omega), f3.2 q (by omega), t2.2 q (by omega), f2.2 q (by omega), t1.2 q (by omega), f1.2 q (by omega)]⟩, fun h0 => ?_⟩
                     · rw [hdF]; repeat (first | rw [if_pos (by omega)] | rw [if_neg (by omega)])
                     · rw [hdF] at h0; revert h0; repeat (first | rw [if_pos (by omega)] | rw [if_neg (by omega)]); intro h0; omega)
                  | (refine ⟨_, rfl, ?_, ⟨fun x hx => by rw [t5.1 x hx, f5.1 x hx, t4.1 x hx, f4.1 x hx, t3.1 x hx, f3.1 x hx, t2.1 x hx, f2.1 x hx, t1.1 x hx, f1.1 x hx], fun q hq hq2 => by rw [t5.2 q (by omega), f5.2 q (by omega), t4.2 q (by omega), f4.2 q (by omega), t3.2 q (by omega), f3.2 q (by omega), t2.2 q (by omega), f2.2 q (by omega), t1.2 q (by omega), f1.2 q (by omega)]⟩, fun h0 => ⟨s51, s52, s53, s54, s5, r5⟩⟩
                     rw [hdF]; repeat (first | rw [if_pos (by omega)] | rw [if_neg (by omega)]))
              · show jT _ _ 124 _ _ _ _
                refine tl_aload_n rfl rfl ?_
                refine tl_geti (c := 6) (k9 := 4) rfl rfl rfl ?_
                rw [s5]
                refine tl_if_ge (tgt := 135) rfl rfl ⟨by omega, by omega⟩ (fun c8 => ?_) (fun c8 => ?_)
                · skip
                  show jT _ _ 135 _ _ _ _
                  refine tl_iconst rfl ?_
                  refine tl_iret rfl ?_
                  -- leaf 1 at 136
                  first
                    | (refine ⟨_, rfl, ?_, ⟨fun x hx => by rw [t5.1 x hx, f5.1 x hx, t4.1 x hx, f4.1 x hx, t3.1 x hx, f3.1 x hx, t2.1 x hx, f2.1 x hx, t1.1 x hx, f1.1 x hx], fun q hq hq2 => by rw [t5.2 q (by omega), f5.2 q (by omega), t4.2 q (by omega), f4.2 q (by omega), t3.2 q (by omega), f3.2 q (by omega), t2.2 q (by omega), f2.2 q (by omega), t1.2 q (by omega), f1.2 q (by omega)]⟩, fun h0 => ?_⟩
                       · rw [hdF]; repeat (first | rw [if_pos (by omega)] | rw [if_neg (by omega)])
                       · rw [hdF] at h0; revert h0; repeat (first | rw [if_pos (by omega)] | rw [if_neg (by omega)]); intro h0; omega)
                    | (refine ⟨_, rfl, ?_, ⟨fun x hx => by rw [t5.1 x hx, f5.1 x hx, t4.1 x hx, f4.1 x hx, t3.1 x hx, f3.1 x hx, t2.1 x hx, f2.1 x hx, t1.1 x hx, f1.1 x hx], fun q hq hq2 => by rw [t5.2 q (by omega), f5.2 q (by omega), t4.2 q (by omega), f4.2 q (by omega), t3.2 q (by omega), f3.2 q (by omega), t2.2 q (by omega), f2.2 q (by omega), t1.2 q (by omega), f1.2 q (by omega)]⟩, fun h0 => ⟨s51, s52, s53, s54, s5, r5⟩⟩
                       rw [hdF]; repeat (first | rw [if_pos (by omega)] | rw [if_neg (by omega)]))
                · show jT _ _ 131 _ _ _ _
                  refine tl_iconst rfl ?_
                  refine tl_goto (tgt := 136) rfl rfl ?_
                  refine tl_iret rfl ?_
                  -- leaf 2 at 136
                  first
                    | (refine ⟨_, rfl, ?_, ⟨fun x hx => by rw [t5.1 x hx, f5.1 x hx, t4.1 x hx, f4.1 x hx, t3.1 x hx, f3.1 x hx, t2.1 x hx, f2.1 x hx, t1.1 x hx, f1.1 x hx], fun q hq hq2 => by rw [t5.2 q (by omega), f5.2 q (by omega), t4.2 q (by omega), f4.2 q (by omega), t3.2 q (by omega), f3.2 q (by omega), t2.2 q (by omega), f2.2 q (by omega), t1.2 q (by omega), f1.2 q (by omega)]⟩, fun h0 => ?_⟩
                       · rw [hdF]; repeat (first | rw [if_pos (by omega)] | rw [if_neg (by omega)])
                       · rw [hdF] at h0; revert h0; repeat (first | rw [if_pos (by omega)] | rw [if_neg (by omega)]); intro h0; omega)
                    | (refine ⟨_, rfl, ?_, ⟨fun x hx => by rw [t5.1 x hx, f5.1 x hx, t4.1 x hx, f4.1 x hx, t3.1 x hx, f3.1 x hx, t2.1 x hx, f2.1 x hx, t1.1 x hx, f1.1 x hx], fun q hq hq2 => by rw [t5.2 q (by omega), f5.2 q (by omega), t4.2 q (by omega), f4.2 q (by omega), t3.2 q (by omega), f3.2 q (by omega), t2.2 q (by omega), f2.2 q (by omega), t1.2 q (by omega), f1.2 q (by omega)]⟩, fun h0 => ⟨s51, s52, s53, s54, s5, r5⟩⟩
                       rw [hdF]; repeat (first | rw [if_pos (by omega)] | rw [if_neg (by omega)]))
            · show jT _ _ 99 _ _ _ _
              refine tl_iconst rfl ?_
              refine tl_iret rfl ?_
              -- leaf 3 at 100
              refine ⟨_, rfl, ?_, ⟨fun x hx => by rw [t3.1 x hx, f3.1 x hx, t2.1 x hx, f2.1 x hx, t1.1 x hx, f1.1 x hx], fun q hq hq2 => by rw [t3.2 q (by omega), f3.2 q (by omega), t2.2 q (by omega), f2.2 q (by omega), t1.2 q (by omega), f1.2 q (by omega)]⟩, fun h0 => ?_⟩
              · rw [hdF]; repeat (first | rw [if_pos (by omega)] | rw [if_neg (by omega)])
              · rw [hdF] at h0; revert h0; repeat (first | rw [if_pos (by omega)] | rw [if_neg (by omega)]); intro h0; omega
          · show jT _ _ 88 _ _ _ _
            show jT _ _ 88 _ _ _ _
            refine tl_iconst rfl ?_
            refine tl_iret rfl ?_
            -- leaf 4 at 89
            refine ⟨_, rfl, ?_, ⟨fun x hx => by rw [t3.1 x hx, f3.1 x hx, t2.1 x hx, f2.1 x hx, t1.1 x hx, f1.1 x hx], fun q hq hq2 => by rw [t3.2 q (by omega), f3.2 q (by omega), t2.2 q (by omega), f2.2 q (by omega), t1.2 q (by omega), f1.2 q (by omega)]⟩, fun h0 => ?_⟩
            · rw [hdF]; repeat (first | rw [if_pos (by omega)] | rw [if_neg (by omega)])
            · rw [hdF] at h0; revert h0; repeat (first | rw [if_pos (by omega)] | rw [if_neg (by omega)]); intro h0; omega
        · show jT _ _ 49 _ _ _ _
          refine tl_aload_n rfl rfl ?_
          refine tl_geti (c := 6) (k9 := 0) rfl rfl rfl ?_
          rw [s21]
          refine tl_aload_n rfl rfl ?_
          refine tl_geti (c := 8) (k9 := 1) rfl rfl rfl ?_
          rw [o5]
          refine tl_icmp_ne (tgt := 71) rfl rfl ⟨by omega, by omega⟩ ⟨by omega, by omega⟩ (fun c9 => ?_) (fun c9 => ?_)
          · skip
            show jT _ _ 71 _ _ _ _
            refine tl_iconst rfl ?_
            refine tl_iret rfl ?_
            -- leaf 5 at 72
            refine ⟨_, rfl, ?_, ⟨fun x hx => by rw [t2.1 x hx, f2.1 x hx, t1.1 x hx, f1.1 x hx], fun q hq hq2 => by rw [t2.2 q (by omega), f2.2 q (by omega), t1.2 q (by omega), f1.2 q (by omega)]⟩, fun h0 => ?_⟩
            · rw [hdF]; repeat (first | rw [if_pos (by omega)] | rw [if_neg (by omega)])
            · rw [hdF] at h0; revert h0; repeat (first | rw [if_pos (by omega)] | rw [if_neg (by omega)]); intro h0; omega
          · show jT _ _ 60 _ _ _ _
            refine tl_aload_n rfl rfl ?_
            refine tl_geti (c := 6) (k9 := 1) rfl rfl rfl ?_
            rw [s2]
            refine tl_aload_n rfl rfl ?_
            refine tl_v0i (c9 := 8) (c_Row_checkAll l (RSf_S 0 (by decide)) m2 (by show 0 ≤ m2 2 1; omega) (by show m2 2 1 ≤ _; omega) cka) rfl rfl rfl rfl rfl (Nat.le_of_ble_eq_true rfl) (fun z9 h9 p9 => ?_)
            obtain ⟨q9, p9⟩ := p9
            have q9 := q9.symm
            subst q9
            have e9 : z9 = ckO R := by
              rw [p9]
              show ckF (m2 3) (m2 2 1).toNat = _
              rw [o5]
              exact ckF_congr _ (fun i hi => cke i (by omega))
            clear p9
            subst e9
            have cob := ckO_b (R := R)
            refine tl_icmp_eq (tgt := 73) rfl rfl ⟨by omega, by omega⟩ ⟨by omega, by omega⟩ (fun c10 => ?_) (fun c10 => ?_)
            · skip
              show jT _ _ 73 _ _ _ _
              refine tl_aload_n rfl rfl ?_
              refine tl_aload_n rfl rfl ?_
              refine tl_v0i (c9 := 6) (k_nextNum l m2 B N (hd2 B N).2 r2) rfl rfl rfl rfl rfl (Nat.le_of_ble_eq_true rfl) (fun z3 h3 p3 => ?_)
              obtain ⟨e3, k3, f3⟩ := p3
              refine tl_puti (c := 6) (k9 := 2) rfl rfl rfl rfl ?_
              have d3 : z3 = (hd3 B N).1 := e3
              clear e3
              subst d3
              generalize g3 : hs h3 339 2 (hd3 B N).1 = m3
              have r3 : RDK m3 B N (hd3 B N).2 := k3.at' (fun q hq => by rw [← g3, hs_k (by omega)]) (by rw [← g3, hs_O (by decide)])
              have s3 : m3 339 2 = (hd3 B N).1 := by rw [← g3, hs_s]
              have t3 : (∀ x, x ≠ 339 → m3 x = h3 x) ∧ ∀ q, q ≠ 2 → m3 339 q = h3 339 q := ⟨fun x hx => by rw [← g3, hs_O hx], fun q hq => by rw [← g3, hs_k hq]⟩
              refine tl_aload_n rfl rfl ?_
              refine tl_geti (c := 6) (k9 := 2) rfl rfl rfl ?_
              rw [s3]
              refine tl_if_ge (tgt := 90) rfl rfl ⟨by omega, by omega⟩ (fun c11 => ?_) (fun c11 => ?_)
              · skip
                show jT _ _ 90 _ _ _ _
                refine tl_aload_n rfl rfl ?_
                refine tl_geti (c := 6) (k9 := 2) rfl rfl rfl ?_
                rw [s3]
                refine tl_bipush rfl rfl ?_
                refine tl_icmp_le (tgt := 101) rfl rfl ⟨by omega, by omega⟩ ⟨by omega, by omega⟩ (fun c12 => ?_) (fun c12 => ?_)
                · skip
                  refine tl_aload_n rfl rfl ?_
                  refine tl_aload_n rfl rfl ?_
                  refine tl_v0i (c9 := 6) (k_nextNum l m3 B N (hd3 B N).2 r3) rfl rfl rfl rfl rfl (Nat.le_of_ble_eq_true rfl) (fun z4 h4 p4 => ?_)
                  obtain ⟨e4, k4, f4⟩ := p4
                  show jT _ _ 106 _ _ _ _
                  refine tl_puti (c := 6) (k9 := 3) rfl rfl rfl rfl ?_
                  have d4 : z4 = (hd4 B N).1 := e4
                  clear e4
                  subst d4
                  generalize g4 : hs h4 339 3 (hd4 B N).1 = m4
                  have r4 : RDK m4 B N (hd4 B N).2 := k4.at' (fun q hq => by rw [← g4, hs_k (by omega)]) (by rw [← g4, hs_O (by decide)])
                  have s4 : m4 339 3 = (hd4 B N).1 := by rw [← g4, hs_s]
                  have t4 : (∀ x, x ≠ 339 → m4 x = h4 x) ∧ ∀ q, q ≠ 3 → m4 339 q = h4 339 q := ⟨fun x hx => by rw [← g4, hs_O hx], fun q hq => by rw [← g4, hs_k hq]⟩
                  refine tl_aload_n rfl rfl ?_
                  refine tl_aload_n rfl rfl ?_
                  refine tl_v0i (c9 := 6) (k_nextNum l m4 B N (hd4 B N).2 r4) rfl rfl rfl rfl rfl (Nat.le_of_ble_eq_true rfl) (fun z5 h5 p5 => ?_)
                  obtain ⟨e5, k5, f5⟩ := p5
                  refine tl_puti (c := 6) (k9 := 4) rfl rfl rfl rfl ?_
                  have d5 : z5 = (hd5 B N).1 := e5
                  clear e5
                  subst d5
                  generalize g5 : hs h5 339 4 (hd5 B N).1 = m5
                  have r5 : RDK m5 B N (hd5 B N).2 := k5.at' (fun q hq => by rw [← g5, hs_k (by omega)]) (by rw [← g5, hs_O (by decide)])
                  have s5 : m5 339 4 = (hd5 B N).1 := by rw [← g5, hs_s]
                  have t5 : (∀ x, x ≠ 339 → m5 x = h5 x) ∧ ∀ q, q ≠ 4 → m5 339 q = h5 339 q := ⟨fun x hx => by rw [← g5, hs_O hx], fun q hq => by rw [← g5, hs_k hq]⟩
                  have s54 : m5 339 3 = (hd4 B N).1 := by rw [t5.2 3 (by decide), f5.2 3 (by decide)]; exact s4
                  have s53 : m5 339 2 = (hd3 B N).1 := by rw [t5.2 2 (by decide), f5.2 2 (by decide), t4.2 2 (by decide), f4.2 2 (by decide)]; exact s3
                  have s52 : m5 339 1 = (hd2 B N).1 := by rw [t5.2 1 (by decide), f5.2 1 (by decide), t4.2 1 (by decide), f4.2 1 (by decide), t3.2 1 (by decide), f3.2 1 (by decide)]; exact s2
                  have s51 : m5 339 0 = (hd1 B N).1 := by rw [t5.2 0 (by decide), f5.2 0 (by decide), t4.2 0 (by decide), f4.2 0 (by decide), t3.2 0 (by decide), f3.2 0 (by decide)]; exact s21
                  refine tl_aload_n rfl rfl ?_
                  refine tl_geti (c := 6) (k9 := 3) rfl rfl rfl ?_
                  rw [s54]
                  show jT _ _ 121 _ _ _ _
                  refine tl_if_lt (tgt := 131) rfl rfl ⟨by omega, by omega⟩ (fun c13 => ?_) (fun c13 => ?_)
                  · skip
                    refine tl_iconst rfl ?_
                    refine tl_goto (tgt := 136) rfl rfl ?_
                    refine tl_iret rfl ?_
                    -- leaf 6 at 136
                    first
                      | (refine ⟨_, rfl, ?_, ⟨fun x hx => by rw [t5.1 x hx, f5.1 x hx, t4.1 x hx, f4.1 x hx, t3.1 x hx, f3.1 x hx, t2.1 x hx, f2.1 x hx, t1.1 x hx, f1.1 x hx], fun q hq hq2 => by rw [t5.2 q (by omega), f5.2 q (by omega), t4.2 q (by omega), f4.2 q (by omega), t3.2 q (by omega), f3.2 q (by omega), t2.2 q (by omega), f2.2 q (by omega), t1.2 q (by omega), f1.2 q (by omega)]⟩, fun h0 => ?_⟩
                         · rw [hdF]; repeat (first | rw [if_pos (by omega)] | rw [if_neg (by omega)])
                         · rw [hdF] at h0; revert h0; repeat (first | rw [if_pos (by omega)] | rw [if_neg (by omega)]); intro h0; omega)
                      | (refine ⟨_, rfl, ?_, ⟨fun x hx => by rw [t5.1 x hx, f5.1 x hx, t4.1 x hx, f4.1 x hx, t3.1 x hx, f3.1 x hx, t2.1 x hx, f2.1 x hx, t1.1 x hx, f1.1 x hx], fun q hq hq2 => by rw [t5.2 q (by omega), f5.2 q (by omega), t4.2 q (by omega), f4.2 q (by omega), t3.2 q (by omega), f3.2 q (by omega), t2.2 q (by omega), f2.2 q (by omega), t1.2 q (by omega), f1.2 q (by omega)]⟩, fun h0 => ⟨s51, s52, s53, s54, s5, r5⟩⟩
                         rw [hdF]; repeat (first | rw [if_pos (by omega)] | rw [if_neg (by omega)]))
                  · show jT _ _ 124 _ _ _ _
                    refine tl_aload_n rfl rfl ?_
                    refine tl_geti (c := 6) (k9 := 4) rfl rfl rfl ?_
                    rw [s5]
                    refine tl_if_ge (tgt := 135) rfl rfl ⟨by omega, by omega⟩ (fun c14 => ?_) (fun c14 => ?_)
                    · skip
                      show jT _ _ 135 _ _ _ _
                      refine tl_iconst rfl ?_
                      refine tl_iret rfl ?_
                      -- leaf 7 at 136
                      first
                        | (refine ⟨_, rfl, ?_, ⟨fun x hx => by rw [t5.1 x hx, f5.1 x hx, t4.1 x hx, f4.1 x hx, t3.1 x hx, f3.1 x hx, t2.1 x hx, f2.1 x hx, t1.1 x hx, f1.1 x hx], fun q hq hq2 => by rw [t5.2 q (by omega), f5.2 q (by omega), t4.2 q (by omega), f4.2 q (by omega), t3.2 q (by omega), f3.2 q (by omega), t2.2 q (by omega), f2.2 q (by omega), t1.2 q (by omega), f1.2 q (by omega)]⟩, fun h0 => ?_⟩
                           · rw [hdF]; repeat (first | rw [if_pos (by omega)] | rw [if_neg (by omega)])
                           · rw [hdF] at h0; revert h0; repeat (first | rw [if_pos (by omega)] | rw [if_neg (by omega)]); intro h0; omega)
                        | (refine ⟨_, rfl, ?_, ⟨fun x hx => by rw [t5.1 x hx, f5.1 x hx, t4.1 x hx, f4.1 x hx, t3.1 x hx, f3.1 x hx, t2.1 x hx, f2.1 x hx, t1.1 x hx, f1.1 x hx], fun q hq hq2 => by rw [t5.2 q (by omega), f5.2 q (by omega), t4.2 q (by omega), f4.2 q (by omega), t3.2 q (by omega), f3.2 q (by omega), t2.2 q (by omega), f2.2 q (by omega), t1.2 q (by omega), f1.2 q (by omega)]⟩, fun h0 => ⟨s51, s52, s53, s54, s5, r5⟩⟩
                           rw [hdF]; repeat (first | rw [if_pos (by omega)] | rw [if_neg (by omega)]))
                    · show jT _ _ 131 _ _ _ _
                      refine tl_iconst rfl ?_
                      refine tl_goto (tgt := 136) rfl rfl ?_
                      refine tl_iret rfl ?_
                      -- leaf 8 at 136
                      first
                        | (refine ⟨_, rfl, ?_, ⟨fun x hx => by rw [t5.1 x hx, f5.1 x hx, t4.1 x hx, f4.1 x hx, t3.1 x hx, f3.1 x hx, t2.1 x hx, f2.1 x hx, t1.1 x hx, f1.1 x hx], fun q hq hq2 => by rw [t5.2 q (by omega), f5.2 q (by omega), t4.2 q (by omega), f4.2 q (by omega), t3.2 q (by omega), f3.2 q (by omega), t2.2 q (by omega), f2.2 q (by omega), t1.2 q (by omega), f1.2 q (by omega)]⟩, fun h0 => ?_⟩
                           · rw [hdF]; repeat (first | rw [if_pos (by omega)] | rw [if_neg (by omega)])
                           · rw [hdF] at h0; revert h0; repeat (first | rw [if_pos (by omega)] | rw [if_neg (by omega)]); intro h0; omega)
                        | (refine ⟨_, rfl, ?_, ⟨fun x hx => by rw [t5.1 x hx, f5.1 x hx, t4.1 x hx, f4.1 x hx, t3.1 x hx, f3.1 x hx, t2.1 x hx, f2.1 x hx, t1.1 x hx, f1.1 x hx], fun q hq hq2 => by rw [t5.2 q (by omega), f5.2 q (by omega), t4.2 q (by omega), f4.2 q (by omega), t3.2 q (by omega), f3.2 q (by omega), t2.2 q (by omega), f2.2 q (by omega), t1.2 q (by omega), f1.2 q (by omega)]⟩, fun h0 => ⟨s51, s52, s53, s54, s5, r5⟩⟩
                           rw [hdF]; repeat (first | rw [if_pos (by omega)] | rw [if_neg (by omega)]))
                · show jT _ _ 99 _ _ _ _
                  refine tl_iconst rfl ?_
                  refine tl_iret rfl ?_
                  -- leaf 9 at 100
                  refine ⟨_, rfl, ?_, ⟨fun x hx => by rw [t3.1 x hx, f3.1 x hx, t2.1 x hx, f2.1 x hx, t1.1 x hx, f1.1 x hx], fun q hq hq2 => by rw [t3.2 q (by omega), f3.2 q (by omega), t2.2 q (by omega), f2.2 q (by omega), t1.2 q (by omega), f1.2 q (by omega)]⟩, fun h0 => ?_⟩
                  · rw [hdF]; repeat (first | rw [if_pos (by omega)] | rw [if_neg (by omega)])
                  · rw [hdF] at h0; revert h0; repeat (first | rw [if_pos (by omega)] | rw [if_neg (by omega)]); intro h0; omega
              · show jT _ _ 88 _ _ _ _
                show jT _ _ 88 _ _ _ _
                refine tl_iconst rfl ?_
                refine tl_iret rfl ?_
                -- leaf 10 at 89
                refine ⟨_, rfl, ?_, ⟨fun x hx => by rw [t3.1 x hx, f3.1 x hx, t2.1 x hx, f2.1 x hx, t1.1 x hx, f1.1 x hx], fun q hq hq2 => by rw [t3.2 q (by omega), f3.2 q (by omega), t2.2 q (by omega), f2.2 q (by omega), t1.2 q (by omega), f1.2 q (by omega)]⟩, fun h0 => ?_⟩
                · rw [hdF]; repeat (first | rw [if_pos (by omega)] | rw [if_neg (by omega)])
                · rw [hdF] at h0; revert h0; repeat (first | rw [if_pos (by omega)] | rw [if_neg (by omega)]); intro h0; omega
            · show jT _ _ 71 _ _ _ _
              refine tl_iconst rfl ?_
              refine tl_iret rfl ?_
              -- leaf 11 at 72
              refine ⟨_, rfl, ?_, ⟨fun x hx => by rw [t2.1 x hx, f2.1 x hx, t1.1 x hx, f1.1 x hx], fun q hq hq2 => by rw [t2.2 q (by omega), f2.2 q (by omega), t1.2 q (by omega), f1.2 q (by omega)]⟩, fun h0 => ?_⟩
              · rw [hdF]; repeat (first | rw [if_pos (by omega)] | rw [if_neg (by omega)])
              · rw [hdF] at h0; revert h0; repeat (first | rw [if_pos (by omega)] | rw [if_neg (by omega)]); intro h0; omega
      · show jT _ _ 43 _ _ _ _
        refine tl_iconst rfl ?_
        refine tl_iret rfl ?_
        -- leaf 12 at 44
        refine ⟨_, rfl, ?_, ⟨fun x hx => by rw [t2.1 x hx, f2.1 x hx, t1.1 x hx, f1.1 x hx], fun q hq hq2 => by rw [t2.2 q (by omega), f2.2 q (by omega), t1.2 q (by omega), f1.2 q (by omega)]⟩, fun h0 => ?_⟩
        · rw [hdF]; repeat (first | rw [if_pos (by omega)] | rw [if_neg (by omega)])
        · rw [hdF] at h0; revert h0; repeat (first | rw [if_pos (by omega)] | rw [if_neg (by omega)]); intro h0; omega
    · show jT _ _ 26 _ _ _ _
      refine tl_iconst rfl ?_
      show jT _ _ 27 _ _ _ _
      refine tl_iret rfl ?_
      -- leaf 13 at 27
      refine ⟨_, rfl, ?_, ⟨fun x hx => by rw [t1.1 x hx, f1.1 x hx], fun q hq hq2 => by rw [t1.2 q (by omega), f1.2 q (by omega)]⟩, fun h0 => ?_⟩
      · rw [hdF]; repeat (first | rw [if_pos (by omega)] | rw [if_neg (by omega)])
      · rw [hdF] at h0; revert h0; repeat (first | rw [if_pos (by omega)] | rw [if_neg (by omega)]); intro h0; omega
  · show jT _ _ 15 _ _ _ _
    refine tl_iconst rfl ?_
    refine tl_iret rfl ?_
    -- leaf 14 at 16
    refine ⟨_, rfl, ?_, ⟨fun x hx => by rw [t1.1 x hx, f1.1 x hx], fun q hq hq2 => by rw [t1.2 q (by omega), f1.2 q (by omega)]⟩, fun h0 => ?_⟩
    · rw [hdF]; repeat (first | rw [if_pos (by omega)] | rw [if_neg (by omega)])
    · rw [hdF] at h0; revert h0; repeat (first | rw [if_pos (by omega)] | rw [if_neg (by omega)]); intro h0; omega
