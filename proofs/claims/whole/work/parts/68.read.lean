/-! a patch read as a whole, of the walked file -/
theorem zrR_b {B : Nat → Int} {N many : Nat} (hB : BB B N) : ∀ f p V, p ≤ N → V.length ≤ many → many - V.length ≤ f → LB V → (zrR B N many f p V).1 = 0 → (zrR B N many f p V).2.2.length = many ∧ LB (zrR B N many f p V).2.2 ∧ (zrR B N many f p V).2.1 ≤ N := by
  intro f
  induction f with
  | zero => intro p V hp h1 h2 hV h0; exact ⟨by show V.length = many; omega, hV, hp⟩
  | succ f ih =>
    intro p V hp h1 h2 hV h0
    have a := rn_b hB hp
    have b := rn_b hB a.2.2.1
    rw [zrR] at h0 ⊢
    by_cases c1 : many ≤ V.length
    · rw [if_pos c1]; exact ⟨by show V.length = many; omega, hV, hp⟩
    · rw [if_neg c1] at h0 ⊢
      by_cases c2 : (rn B N p).1 < 0
      · rw [if_pos c2] at h0; exact absurd h0 (by show ¬ (3 : Int) = 0; decide)
      · rw [if_neg c2] at h0 ⊢
        by_cases c3 : (many : Int) - V.length < (rn B N p).1
        · rw [if_pos c3] at h0; exact absurd h0 (by show ¬ (5 : Int) = 0; decide)
        · rw [if_neg c3] at h0 ⊢
          have B1 : LB (V ++ List.replicate (rn B N p).1.toNat 0) := hV.app (rep_B ⟨by omega, by omega⟩)
          have L1 : (V ++ List.replicate (rn B N p).1.toNat 0).length = V.length + (rn B N p).1.toNat := by rw [List.length_append, List.length_replicate]
          by_cases c4 : V.length + (rn B N p).1.toNat < many
          · rw [if_pos c4] at h0 ⊢
            by_cases c5 : (rn B N (rn B N p).2).1 = 0 ∨ (many : Int) - (V.length + (rn B N p).1.toNat : Nat) < (rn B N (rn B N p).2).1
            · rw [if_pos c5] at h0; exact absurd h0 (by show ¬ (5 : Int) = 0; decide)
            · rw [if_neg c5] at h0 ⊢
              by_cases c6 : (rn B N (rn B N p).2).1 < 0
              · rw [if_pos c6] at h0; exact absurd h0 (by show ¬ (3 : Int) = 0; decide)
              · rw [if_neg c6] at h0 ⊢
                have q := plF_b hB (rn B N (rn B N p).2).1.toNat (rn B N (rn B N p).2).2 (V ++ List.replicate (rn B N p).1.toNat 0) b.2.2.1
                by_cases c7 : (plF B N (rn B N (rn B N p).2).1.toNat (rn B N (rn B N p).2).2 (V ++ List.replicate (rn B N p).1.toNat 0)).1 = 0
                · rw [if_pos c7] at h0 ⊢
                  have l := q.2.2.1 c7
                  exact ih _ _ q.2.1.2 (by omega) (by omega) (q.2.2.2 B1) h0
                · rw [if_neg c7] at h0; exact absurd h0 (by show ¬ (3 : Int) = 0; decide)
          · rw [if_neg c4] at h0 ⊢
            exact ih _ _ a.2.2.1 (by omega) (by omega) B1 h0
theorem rnQ_b {B : Nat → Int} {N many : Nat} (hB : BB B N) : ∀ f p V, p ≤ N → V.length ≤ many → many - V.length ≤ f → LB V → (rnQ B N many f p V).1 = 0 → (rnQ B N many f p V).2.2.length = many ∧ LB (rnQ B N many f p V).2.2 ∧ (rnQ B N many f p V).2.1 ≤ N := by
  intro f
  induction f with
  | zero => intro p V hp h1 h2 hV h0; exact ⟨by show V.length = many; omega, hV, hp⟩
  | succ f ih =>
    intro p V hp h1 h2 hV h0
    have a := rn_b hB hp
    have b := rb_b hB a.2.2.1
    rw [rnQ] at h0 ⊢
    by_cases c1 : many ≤ V.length
    · rw [if_pos c1]; exact ⟨by show V.length = many; omega, hV, hp⟩
    · rw [if_neg c1] at h0 ⊢
      by_cases c2 : (rn B N p).1 < 0
      · rw [if_pos c2] at h0; exact absurd h0 (by show ¬ (3 : Int) = 0; decide)
      · rw [if_neg c2] at h0 ⊢
        by_cases c3 : (rn B N p).1 = 0 ∨ (many : Int) - V.length < (rn B N p).1
        · rw [if_pos c3] at h0; exact absurd h0 (by show ¬ (5 : Int) = 0; decide)
        · rw [if_neg c3] at h0 ⊢
          by_cases c4 : (rb B N (rn B N p).2).1 < 0
          · rw [if_pos c4] at h0; exact absurd h0 (by show ¬ (3 : Int) = 0; decide)
          · rw [if_neg c4] at h0 ⊢
            exact ih _ _ b.2.2.1 (by rw [List.length_append, List.length_replicate]; omega) (by rw [List.length_append, List.length_replicate]; omega) (hV.app (rep_B ⟨by omega, by omega⟩)) h0
theorem rwR_b {B : Nat → Int} {N many p : Nat} (hB : BB B N) (hp : p ≤ N) (h0 : (rwR B N many p).1 = 0) : (rwR B N many p).2.2.length = many ∧ LB (rwR B N many p).2.2 ∧ (rwR B N many p).2.1 ≤ N := by
  have a := rn_b hB hp
  rw [rwR] at h0 ⊢
  by_cases c1 : (rn B N p).1 < 0
  · rw [if_pos c1] at h0; exact absurd h0 (by show ¬ (3 : Int) = 0; decide)
  · rw [if_neg c1] at h0 ⊢
    by_cases c2 : 2 < (rn B N p).1
    · rw [if_pos c2] at h0; exact absurd h0 (by show ¬ (5 : Int) = 0; decide)
    · rw [if_neg c2] at h0 ⊢
      by_cases c3 : (rn B N p).1 = 0
      · rw [if_pos c3] at h0 ⊢
        have q := plF_b hB many (rn B N p).2 [] a.2.2.1
        exact ⟨by rw [q.2.2.1 h0]; show 0 + many = many; omega, q.2.2.2 LB.nil, q.2.1.2⟩
      · rw [if_neg c3] at h0 ⊢
        by_cases c4 : (rn B N p).1 = 1
        · rw [if_pos c4] at h0 ⊢; exact zrR_b hB _ _ _ a.2.2.1 (Nat.zero_le _) (by show many - 0 ≤ many; omega) LB.nil h0
        · rw [if_neg c4] at h0 ⊢; exact rnQ_b hB _ _ _ a.2.2.1 (Nat.zero_le _) (by show many - 0 ≤ many; omega) LB.nil h0
/-- what comes out of origins -/
def coV (g : jH) (R : Nat → Int) (i : Nat) : Int := if g 0 i = -1 then g 1 i else (R (6 + (g 0 i).toNat) + g 1 i) % 256
def coL (g : jH) (R : Nat → Int) : Nat → List Int
  | 0 => []
  | i + 1 => coL g R i ++ [coV g R i]
theorem coL_len {g : jH} {R : Nat → Int} : ∀ n, (coL g R n).length = n := by
  intro n
  induction n with
  | zero => rfl
  | succ n ih => rw [coL, List.length_append, ih]; rfl
def OGs (g : jH) (R : Nat → Int) (n : Nat) : Prop := ∀ i, i < n → (g 0 i = -1 ∨ (0 ≤ g 0 i ∧ g 0 i < R 5)) ∧ byt (g 1 i)
theorem coL_B {g : jH} {R : Nat → Int} {n : Nat} (hs9 : OGs g R n) : ∀ k, k ≤ n → LB (coL g R k) := by
  intro k
  induction k with
  | zero => intro _; exact LB.nil
  | succ k ih =>
    intro hk
    refine (ih (by omega)).app (LB.one ?_)
    rw [coV]
    split
    · exact (hs9 k (by omega)).2
    · exact ⟨by omega, by omega⟩
set_option maxRecDepth 20000 in
set_option maxHeartbeats 1000000 in
theorem k_co_lp (l : Launch) {o a b : Nat} (hO : OrS o a b) {r c : Nat} (hS : RowS r c 64) (hD : (18 < r ∧ 18 < c) ∧ o ≠ r ∧ o ≠ c ∧ a ≠ r ∧ a ≠ c ∧ b ≠ r ∧ b ≠ c) (h g : jH) (R : Nat → Int) (hR : RS h 1 R) (n : Nat) (hg : OG h o a b g n) (hv : OGv g n) (hs9 : OGs g R n) (P : Option Value → jH → Prop) (hP : ∀ mem, (RL mem r c (coL g R n) ∧ ∀ y, y ≠ r → y ≠ c → mem y = h y) → P none mem) : ∀ (m : Nat) (k : Nat) (mem : jH) (y4 : Option Value), n - k < m → (k ≤ n ∧ RL mem r c (coL g R k) ∧ ∀ y, y ≠ r → y ≠ c → mem y = h y) → jT l 44 7 [some (.ref o), some (.ref 2), some (.ref r), some (.int (jI ((k : Int)))), y4] [] mem P := by
  have n64 := hv.1
  have ok := hR.ok
  obtain ⟨k1, k2, k3, k4, k5, k6, k7⟩ := ok
  intro m
  induction m with
  | zero => intro k mem y4 hk; omega
  | succ m ih =>
    intro k mem y4 hk hi
    obtain ⟨i0, i1, fr⟩ := hi
    have hgm := hg.of (fr o (by omega) (by omega)) (fr a (by omega) (by omega)) (fr b (by omega) (by omega))
    have hRm : RS mem 1 R := hR.of (fun x x1 x2 => fr x (by omega) (by omega))
    refine tl_iload_n rfl rfl ?_
    refine tl_aload_n rfl rfl ?_
    refine tl_geti (c := 3) (k9 := 2) rfl hO.1 rfl ?_
    rw [hgm.1]
    refine tl_icmp_ge (tgt := 62) rfl rfl ⟨by omega, by omega⟩ ⟨by omega, by omega⟩ (fun c1 => ?_) (fun c1 => ?_)
    · skip
      refine tl_ret rfl ?_
      -- leaf 0 at 62
      have e : k = n := by omega
      rw [e] at i1
      exact hP mem ⟨i1, fr⟩
    · show jT _ _ 15 _ _ _ _
      have gb := hv.2 k (by omega)
      have gb1 := gb.1
      have gb2 := gb.2.1
      have gb3 := gb.2.2
      have gs := (hs9 k (by omega)).1
      refine tl_aload_n rfl rfl ?_
      show jT _ _ 16 _ _ _ _
      refine tl_iload_n rfl rfl ?_
      refine tl_v1i (c9 := 3) (k_plA l hO mem g n hgm hv k (by omega)) rfl rfl rfl hO.1 rfl (Nat.le_of_ble_eq_true rfl) (fun z1 h1 p1 => ?_)
      obtain ⟨q1, rfl⟩ := p1
      have q1 := q1.symm
      subst q1
      refine tl_istore rfl (Nat.le_of_ble_eq_true rfl) rfl ?_
      refine tl_aload_n rfl rfl ?_
      refine tl_iload rfl rfl ?_
      refine tl_iconst rfl ?_
      refine tl_icmp_ne (tgt := 37) rfl rfl ⟨by omega, by omega⟩ ⟨by omega, by omega⟩ (fun c2 => ?_) (fun c2 => ?_)
      · skip
        show jT _ _ 37 _ _ _ _
        refine tl_aload_n rfl rfl ?_
        refine tl_iload rfl rfl ?_
        refine tl_v1i (c9 := 8) (k_oget l mem R hRm (g 0 k) ⟨by omega, by omega⟩) rfl rfl rfl rfl rfl (Nat.le_of_ble_eq_true rfl) (fun z3 h3 p3 => ?_)
        obtain ⟨q3, p3⟩ := p3
        have q3 := q3.symm
        subst q3
        rw [if_pos (by omega)] at p3
        have yb := k5 (g 0 k).toNat (by omega)
        have yb1 := yb.1
        have yb2 := yb.2
        refine tl_aload_n rfl rfl ?_
        refine tl_iload_n rfl rfl ?_
        refine tl_v1i (c9 := 3) (k_vaA l hO mem g n hgm hv k (by omega)) rfl rfl rfl hO.1 rfl (Nat.le_of_ble_eq_true rfl) (fun z4 h4 p4 => ?_)
        obtain ⟨q4, rfl⟩ := p4
        have q4 := q4.symm
        subst q4
        refine tl_iadd rfl ?_
        show jT _ _ 49 _ _ _ _
        refine tl_sipush rfl rfl ?_
        refine tl_iand rfl (jI_and255 _) ?_
        show jT _ _ 53 _ _ _ _
        -- leaf 1 at 53
        first | (rw [show g 1 k = coV g R k by rw [coV, if_pos (by omega)]]) | (rw [show (z3 + g 1 k) % 256 = coV g R k by rw [coV, if_neg (by omega), ← p3]])
        refine tl_v1v (c9 := 8) (c_addL l hS mem _ i1 (by rw [coL_len]; omega) (coV g R k)) rfl rfl rfl hS.1 rfl (Nat.le_of_ble_eq_true rfl) (fun h2 p2 => ?_)
        obtain ⟨k2, f2⟩ := p2
        refine tl_iinc rfl rfl rfl ?_
        refine tl_goto (tgt := 7) rfl rfl ?_
        show jT _ _ 7 _ _ _ _
        -- leaf 0 at 7
        exact ih (k + 1) h2 _ (by omega) ⟨by omega, k2, fun y y1 y2 => (f2 y y1 y2).trans (fr y y1 y2)⟩
      · show jT _ _ 29 _ _ _ _
        refine tl_aload_n rfl rfl ?_
        refine tl_iload_n rfl rfl ?_
        refine tl_v1i (c9 := 3) (k_vaA l hO mem g n hgm hv k (by omega)) rfl rfl rfl hO.1 rfl (Nat.le_of_ble_eq_true rfl) (fun z2 h2 p2 => ?_)
        obtain ⟨q2, rfl⟩ := p2
        have q2 := q2.symm
        subst q2
        refine tl_goto (tgt := 53) rfl rfl ?_
        show jT _ _ 53 _ _ _ _
        -- leaf 2 at 53
        first | (rw [show g 1 k = coV g R k by rw [coV, if_pos (by omega)]]) | (rw [show (z3 + g 1 k) % 256 = coV g R k by rw [coV, if_neg (by omega), ← p3]])
        refine tl_v1v (c9 := 8) (c_addL l hS mem _ i1 (by rw [coL_len]; omega) (coV g R k)) rfl rfl rfl hS.1 rfl (Nat.le_of_ble_eq_true rfl) (fun h2 p2 => ?_)
        obtain ⟨k2, f2⟩ := p2
        refine tl_iinc rfl rfl rfl ?_
        refine tl_goto (tgt := 7) rfl rfl ?_
        show jT _ _ 7 _ _ _ _
        -- leaf 0 at 7
        exact ih (k + 1) h2 _ (by omega) ⟨by omega, k2, fun y y1 y2 => (f2 y y1 y2).trans (fr y y1 y2)⟩
set_option maxRecDepth 20000 in
set_option maxHeartbeats 1000000 in
theorem k_comeOut (l : Launch) {o a b : Nat} (hO : OrS o a b) {r c : Nat} (hS : RowS r c 64) (hD : (18 < r ∧ 18 < c) ∧ o ≠ r ∧ o ≠ c ∧ a ≠ r ∧ a ≠ c ∧ b ≠ r ∧ b ≠ c) (h g : jH) (R : Nat → Int) (hR : RS h 1 R) (n : Nat) (hg : OG h o a b g n) (hv : OGv g n) (hs9 : OGs g R n) : cV l 44 [.ref o, .ref 2, .ref r] h (fun h' => RL h' r c (coL g R n) ∧ ∀ y, y ≠ r → y ≠ c → h' y = h y) := by
  have n64 := hv.1
  refine cV.of rfl rfl ?_
  refine tl_aload_n rfl rfl ?_
  refine tl_iconst rfl ?_
  refine tl_puti (c := 8) (k9 := 1) rfl rfl hS.1 rfl ?_
  refine tl_iconst rfl ?_
  refine tl_istore_n rfl (Nat.le_of_ble_eq_true rfl) rfl ?_
  show jT _ _ 7 _ _ _ _
  -- leaf 0 at 7
  have hgm : OG (hs h r 1 0) o a b g n := hg.of (hs_O (by omega)) (hs_O (by omega)) (hs_O (by omega))
  refine k_co_lp l hO hS hD (hs h r 1 0) g R (hR.of (fun x x1 x2 => hs_O (by omega))) n hgm hv hs9 _ (fun mem hi => ⟨rfl, hi.1, fun y y1 y2 => (hi.2 y y1 y2).trans (hs_O y1)⟩) _ 0 _ none (Nat.lt_succ_self _) ⟨Nat.zero_le _, ⟨hs_s, fun i hi => absurd hi (by show ¬ i < 0; omega)⟩, fun y _ _ => rfl⟩
set_option maxRecDepth 20000 in
set_option maxHeartbeats 1000000 in
theorem k_outFlaw (l : Launch) (h : jH) (R : Nat → Int) (hR : RS h 1 R) (g : jH) (n : Nat) (nc : Int) (hn : h 339 3 = nc) (nc0 : 0 ≤ nc ∧ nc ≤ 16383) (hg : OG h 345 346 347 g n) (hv : OGv g n) (hs9 : OGs g R n) : cI l 66 [.ref 339, .ref 2] h (fun z h' => z = (if ckL (coL g R n) = nc then 0 else 7) ∧ RL h' 348 349 (coL g R n) ∧ ∀ y, y ≠ 348 → y ≠ 349 → h' y = h y) := by
  have n64 := hv.1
  have cl := coL_len (g := g) (R := R) n
  have cB := coL_B hs9 n (Nat.le_refl _)
  refine cI.of rfl rfl ?_
  refine tl_aload_n rfl rfl ?_
  refine tl_getr (c := 6) (k9 := 10) (b := 345) rfl rfl rfl rfl ?_
  refine tl_aload_n rfl rfl ?_
  refine tl_aload_n rfl rfl ?_
  refine tl_getr (c := 6) (k9 := 11) (b := 348) rfl rfl rfl rfl ?_
  refine tl_v2v (c9 := 3) (k_comeOut l Or345 R348 (by omega) h g R hR n hg hv hs9) rfl rfl rfl rfl rfl (Nat.le_of_ble_eq_true rfl) (fun h1 p1 => ?_)
  obtain ⟨k1, f1⟩ := p1
  show jT _ _ 12 _ _ _ _
  refine tl_aload_n rfl rfl ?_
  refine tl_getr (c := 6) (k9 := 11) (b := 348) rfl rfl rfl rfl ?_
  refine tl_v0i (c9 := 8) (c_Row_checkAll l R348 h1 (by rw [k1.1]; omega) (by rw [k1.1]; omega) (fun i hi => by rw [k1.1] at hi; rw [k1.2 i (by omega)]; have q := cB.gd (i := i) (by omega); exact ⟨q.1, by have := q.2; omega⟩)) rfl rfl rfl rfl rfl (Nat.le_of_ble_eq_true rfl) (fun z2 h2 p2 => ?_)
  obtain ⟨q2, p2⟩ := p2
  have q2 := q2.symm
  subst q2
  rw [k1.1, Int.toNat_natCast, ckF_congr _ (fun i hi => k1.2 i hi)] at p2
  have p3 : z2 = ckL (coL g R n) := p2
  clear p2
  subst p3
  have cb := ckF_b (fun i => (coL g R n).getD i 0) (coL g R n).length
  have cb2 : 0 ≤ ckL (coL g R n) ∧ ckL (coL g R n) < 257 := cb
  refine tl_aload_n rfl rfl ?_
  refine tl_geti (c := 6) (k9 := 3) rfl rfl rfl ?_
  rw [f1 339 (by decide) (by decide), hn]
  refine tl_icmp_ne (tgt := 30) rfl rfl ⟨by omega, by omega⟩ ⟨by omega, by omega⟩ (fun c1 => ?_) (fun c1 => ?_)
  · skip
    refine tl_bipush rfl rfl ?_
    show jT _ _ 32 _ _ _ _
    refine tl_iret rfl ?_
    -- leaf 0 at 32
    refine ⟨_, rfl, ?_, k1, f1⟩
    first | rw [if_pos (by omega)] | rw [if_neg (by omega)]
  · show jT _ _ 26 _ _ _ _
    refine tl_iconst rfl ?_
    refine tl_goto (tgt := 32) rfl rfl ?_
    refine tl_iret rfl ?_
    -- leaf 1 at 32
    refine ⟨_, rfl, ?_, k1, f1⟩
    first | rw [if_pos (by omega)] | rw [if_neg (by omega)]
