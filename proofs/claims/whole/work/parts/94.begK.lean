/-! begin: the run planned by the walked file -/
def bgF (c : Nat) (L : List Int) (g : jH) (w : Nat) : Int := if w < c then g 0 (L.getD w 0).toNat else -1
def bgA (c : Nat) (L : List Int) (g : jH) (R : Nat → Int) (w : Nat) : Int := if w < c then g 1 (L.getD w 0).toNat else coV g R (L.getD w 0).toNat
def kpV (g : jH) (R : Nat → Int) (i : Nat) : Int := (if g 0 i = -1 then 0 else R (6 + (g 0 i).toNat)) + g 1 i
def bgV (c : Nat) (L : List Int) (g : jH) (R : Nat → Int) (w : Nat) : Int := if w < c then g 1 (L.getD w 0).toNat else kpV g R (L.getD w 0).toNat
def PLK (h : jH) (c : Nat) (L : List Int) (g : jH) (R : Nat → Int) : Prop := h 356 9 = (L.length : Int) ∧ ∀ w, w < L.length → h 16 w = L.getD w 0 ∧ h 17 w = bgF c L g w ∧ h 18 w = bgV c L g R w
def FPL (h h' : jH) : Prop := (∀ x, x ≠ 16 → x ≠ 17 → x ≠ 18 → x ≠ 356 → h' x = h x) ∧ ∀ q, q ≠ 9 → h' 356 q = h 356 q
theorem FPL.rfl' {h : jH} : FPL h h := ⟨fun _ _ _ _ _ => rfl, fun _ _ => rfl⟩
theorem FPL.trans {a b c : jH} (h1 : FPL a b) (h2 : FPL b c) : FPL a c := ⟨fun x a1 a2 a3 a4 => (h2.1 x a1 a2 a3 a4).trans (h1.1 x a1 a2 a3 a4), fun q hq => (h2.2 q hq).trans (h1.2 q hq)⟩
theorem bg_l {c : Nat} {L : List Int} {x : Int} {g : jH} {R : Nat → Int} {w : Nat} (h : w < L.length) : bgF c (L ++ [x]) g w = bgF c L g w ∧ bgV c (L ++ [x]) g R w = bgV c L g R w ∧ bgA c (L ++ [x]) g R w = bgA c L g R w := by
  unfold bgF bgV bgA
  rw [gd_l h]
  exact ⟨rfl, rfl, rfl⟩
theorem bg_s {c : Nat} {L : List Int} {x : Int} {g : jH} {R : Nat → Int} : bgF c (L ++ [x]) g L.length = (if L.length < c then g 0 x.toNat else -1) ∧ bgV c (L ++ [x]) g R L.length = (if L.length < c then g 1 x.toNat else kpV g R x.toNat) ∧ bgA c (L ++ [x]) g R L.length = (if L.length < c then g 1 x.toNat else coV g R x.toNat) := by
  unfold bgF bgV bgA
  rw [gd_s]
  exact ⟨rfl, rfl, rfl⟩
theorem PLK.cc {h g : jH} {c : Nat} {L : List Int} {R : Nat → Int} (k : PLK h c L g R) (hc : L.length ≤ c) : PLK h L.length L g R := by
  refine ⟨k.1, fun w hw => ?_⟩
  have a := k.2 w hw
  unfold bgF bgV at a ⊢
  rw [if_pos (by omega)] at a
  rw [if_pos (by omega)] at a
  rw [if_pos hw, if_pos hw]; exact a
theorem RS.of16 {h h' : jH} {R : Nat → Int} (hR : RS h 1 R) (r0 : R 1167 = 0) (e : ∀ x, 1 ≤ x → x < 16 → h' x = h x) : RS h' 1 R := by
  obtain ⟨a, b, c, d1, d2, d3, d4, d5⟩ := hR
  refine ⟨fun f hf => ?_, fun k hk => ?_, fun i hi => ?_, d1, ?_, ?_, ?_, fun w => absurd w (by omega)⟩
  · have q := a f hf
    unfold RSf at q ⊢
    rw [e _ (by omega) (by omega), e _ (by omega) (by omega)]; exact q
  · have q := b k hk
    unfold RSs at q ⊢
    rw [e _ (by omega) (by omega), e _ (by omega) (by omega)]; exact q
  · rw [e _ (by omega) (by omega)]; exact c i hi
  · rw [e _ (by omega) (by omega)]; exact d2
  · rw [e _ (by omega) (by omega)]; exact d3
  · rw [e _ (by omega) (by omega)]; exact d4
theorem kpV_b {g : jH} {R : Nat → Int} {n : Nat} (ok : Rok R) (hs9 : OGs g R n) {i : Nat} (hi : i < n) : 0 ≤ kpV g R i ∧ kpV g R i ≤ 510 ∧ kpV g R i % 256 = coV g R i := by
  have a := hs9 i hi
  have b := a.2.1
  have b2 := a.2.2
  unfold kpV coV
  by_cases c : g 0 i = -1
  · rw [if_pos c, if_pos c]; omega
  · rw [if_neg c, if_neg c]
    have d := ok.2.2.2.2.1 (g 0 i).toNat (by omega)
    have d1 := d.1
    have d2 := d.2
    omega
set_option maxRecDepth 20000 in
set_option maxHeartbeats 1000000 in
theorem k_plan (l : Launch) (h g : jH) (R : Nat → Int) (c : Nat) (L : List Int) (k9 : PLK h c L g R) (l64 : L.length < 64) (x : Int) (f v : Int) (hf : f = bgF c (L ++ [x]) g L.length) (hv : v = bgV c (L ++ [x]) g R L.length) : cV l 21 [.ref 356, .ref 1, .int (jI x), .int (jI f), .int (jI v)] h (fun h' => PLK h' c (L ++ [x]) g R ∧ FPL h h') := by
  have k1 := k9.1
  refine cV.of rfl rfl ?_
  refine tl_aload_n rfl rfl ?_
  refine tl_geti (c := 1) (k9 := 9) rfl rfl rfl ?_
  rw [k1]
  refine tl_if_lt (tgt := 57) rfl rfl ⟨by omega, by omega⟩ (fun c1 => ?_) (fun c1 => ?_)
  · skip
    exfalso; omega
  · show jT _ _ 7 _ _ _ _
    refine tl_aload_n rfl rfl ?_
    refine tl_geti (c := 1) (k9 := 9) rfl rfl rfl ?_
    rw [k1]
    refine tl_bipush rfl rfl ?_
    show jT _ _ 13 _ _ _ _
    refine tl_icmp_ge (tgt := 57) rfl rfl ⟨by omega, by omega⟩ ⟨by omega, by omega⟩ (fun c2 => ?_) (fun c2 => ?_)
    · skip
      exfalso; omega
    · show jT _ _ 16 _ _ _ _
      refine tl_aload_n rfl rfl ?_
      refine tl_getr (c := 9) (k9 := 5) (b := 16) rfl rfl rfl rfl ?_
      refine tl_aload_n rfl rfl ?_
      refine tl_geti (c := 1) (k9 := 9) rfl rfl rfl ?_
      rw [k1]
      refine tl_iload_n rfl rfl ?_
      refine tl_iast (n := 64) rfl rfl rfl (by omega) (by omega) ?_
      rw [Int.toNat_natCast]
      show jT _ _ 26 _ _ _ _
      refine tl_aload_n rfl rfl ?_
      refine tl_getr (c := 9) (k9 := 6) (b := 17) rfl rfl rfl rfl ?_
      refine tl_aload_n rfl rfl ?_
      refine tl_geti (c := 1) (k9 := 9) rfl rfl rfl ?_
      rw [hs_o (by decide), k1]
      refine tl_iload_n rfl rfl ?_
      refine tl_iast (n := 64) rfl rfl rfl (by omega) (by omega) ?_
      rw [Int.toNat_natCast]
      refine tl_aload_n rfl rfl ?_
      show jT _ _ 37 _ _ _ _
      refine tl_getr (c := 9) (k9 := 7) (b := 18) rfl rfl rfl rfl ?_
      refine tl_aload_n rfl rfl ?_
      refine tl_geti (c := 1) (k9 := 9) rfl rfl rfl ?_
      rw [hs_o (by decide), hs_o (by decide), k1]
      refine tl_iload rfl rfl ?_
      refine tl_iast (n := 64) rfl rfl rfl (by omega) (by omega) ?_
      rw [Int.toNat_natCast]
      refine tl_aload_n rfl rfl ?_
      refine tl_dup rfl rfl ?_
      show jT _ _ 49 _ _ _ _
      refine tl_geti (c := 1) (k9 := 9) rfl rfl rfl ?_
      rw [hs_o (by decide), hs_o (by decide), hs_o (by decide), k1]
      refine tl_iconst rfl ?_
      refine tl_iadd rfl ?_
      refine tl_puti (c := 1) (k9 := 9) rfl rfl rfl rfl ?_
      refine tl_ret rfl ?_
      -- leaf 0 at 57
      refine ⟨rfl, ⟨by rw [hs_s, List.length_append]; show (L.length : Int) + 1 = ((L.length + 1 : Nat) : Int); omega, fun w hw => ?_⟩, fun x x1 x2 x3 x4 => by rw [hs_O x4, hs_O x3, hs_O x2, hs_O x1], fun q hq => by rw [hs_k hq, hs_o (by decide), hs_o (by decide), hs_o (by decide)]⟩
      rw [List.length_append] at hw
      change w < L.length + 1 at hw
      by_cases e : w = L.length
      · subst e
        refine ⟨?_, ?_, ?_⟩
        · rw [hs_o (by decide), hs_o (by decide), hs_o (by decide), hs_s, gd_s]
        · rw [hs_o (by decide), hs_o (by decide), hs_s]; exact hf
        · rw [hs_o (by decide), hs_s]; exact hv
      · have a := k9.2 w (by omega)
        have b := bg_l (c := c) (L := L) (x := x) (g := g) (R := R) (w := w) (by omega)
        rw [gd_l (by omega), b.1, b.2.1]
        refine ⟨?_, ?_, ?_⟩
        · rw [hs_o (by decide), hs_k2 e, hs_k2 e, hs_k2 e]; exact a.1
        · rw [hs_o (by decide), hs_k2 e, hs_k2 e, hs_k2 e]; exact a.2.1
        · rw [hs_o (by decide), hs_k2 e, hs_k2 e, hs_k2 e]; exact a.2.2
set_option maxRecDepth 20000 in
set_option maxHeartbeats 1000000 in
theorem k_pc_lp (l : Launch) (h : jH) (S : jH) (n : Nat) (sb : SB9 S n) (g : jH) (R : Nat → Int) (N : Nat) (hv : OGv g N) (hg : OG h 345 346 347 g N) (kp : PTK h S n) (p : Nat) (hp : p < n) (hN : S 4 p + S 2 p ≤ (N : Int)) (L : List Int) (l64 : (L.length : Int) + S 2 p ≤ 64) (ri : Int) (hri : ri = 1 ∧ S 4 p ≤ S 1 p ∨ ri = 0 ∧ ¬ S 4 p ≤ S 1 p) (P : Option Value → jH → Prop) (hP : ∀ mem, (PLK mem 1000 (L ++ cpL S p (S 2 p).toNat) g R ∧ FPL h mem) → P none mem) : ∀ (m : Nat) (t : Nat) (mem : jH) (y7 : Option Value), (S 2 p).toNat - t < m → ((t : Int) ≤ S 2 p ∧ PLK mem 1000 (L ++ cpL S p t) g R ∧ FPL h mem) → jT l 19 44 [some (.ref 356), some (.ref 339), some (.int (jI ((p : Int)))), some (.ref 1), some (.int (jI (S 2 p))), some (.int (jI (ri))), some (.int (jI ((t : Int)))), y7] [] mem P := by
  have n64 := hv.1
  have sp := sb.2 p hp
  have sp1 := sp.1
  have sp2 := sp.2.1
  have sp4 := sp.2.2
  have n99 := sb.1
  intro m
  induction m with
  | zero => intro t mem y7 hk; omega
  | succ m ih =>
    intro t mem y7 hk hi
    obtain ⟨i0, k9, fr⟩ := hi
    have e4 : mem 345 2 = (N : Int) := by rw [fr.1 345 (by decide) (by decide) (by decide) (by decide)]; exact hg.1
    have kpp := kp p hp
    have len : (L ++ cpL S p t).length = L.length + t := by rw [List.length_append, cpL_len]
    have esx : ∃ sx, (S 4 p + (if S 4 p ≤ S 1 p then (t : Int) else S 2 p - 1 - (t : Int))) = sx := ⟨_, rfl⟩
    obtain ⟨sx, es⟩ := esx
    have exs : ri = 1 ∧ sx = S 4 p + (t : Int) ∨ ri = 0 ∧ sx = S 4 p + (S 2 p - 1 - (t : Int)) := by
      rcases hri with ⟨a, b⟩ | ⟨a, b⟩
      · rw [if_pos b] at es; exact Or.inl ⟨a, es.symm⟩
      · rw [if_neg b] at es; exact Or.inr ⟨a, es.symm⟩
    have kf : S 2 p ≤ (t : Int) ∨ ((t : Int) < S 2 p ∧ mem 346 sx.toNat = g 0 sx.toNat ∧ mem 347 sx.toNat = g 1 sx.toNat ∧ 0 ≤ sx ∧ sx < (N : Int)) := by
      by_cases c : (t : Int) < S 2 p
      · have b := hg.2 sx.toNat (by omega)
        refine Or.inr ⟨c, ?_, ?_, by omega, by omega⟩
        · rw [fr.1 346 (by decide) (by decide) (by decide) (by decide)]; exact b.1
        · rw [fr.1 347 (by decide) (by decide) (by decide) (by decide)]; exact b.2
      · exact Or.inl (by omega)
    refine tl_iload rfl rfl ?_
    refine tl_iload rfl rfl ?_
    refine tl_icmp_ge (tgt := 108) rfl rfl ⟨by omega, by omega⟩ ⟨by omega, by omega⟩ (fun c1 => ?_) (fun c1 => ?_)
    · skip
      refine tl_ret rfl ?_
      -- leaf 0 at 108
      have e : t = (S 2 p).toNat := by omega
      subst e
      exact hP mem ⟨k9, fr⟩
    · show jT _ _ 51 _ _ _ _
      refine tl_aload_n rfl rfl ?_
      refine tl_getr (c := 6) (k9 := 8) (b := 343) rfl rfl rfl rfl ?_
      show jT _ _ 55 _ _ _ _
      refine tl_iload_n rfl rfl ?_
      refine tl_iald (n := 100) rfl rfl rfl (by omega) (by omega) ?_
      rw [Int.toNat_natCast, fr.1 343 (by decide) (by decide) (by decide) (by decide), kpp.2.2.2]
      refine tl_iload rfl rfl ?_
      refine tl_if_eq (tgt := 67) rfl rfl ⟨by omega, by omega⟩ (fun c2 => ?_) (fun c2 => ?_)
      · skip
        refine tl_iload rfl rfl ?_
        refine tl_iconst rfl ?_
        refine tl_isub rfl ?_
        show jT _ _ 71 _ _ _ _
        refine tl_iload rfl rfl ?_
        refine tl_isub rfl ?_
        refine tl_iadd rfl ?_
        first | rw [show S 4 p + (t : Int) = sx by omega] | rw [show S 4 p + (S 2 p - 1 - (t : Int)) = sx by omega]
        refine tl_istore rfl (Nat.le_of_ble_eq_true rfl) rfl ?_
        refine tl_aload_n rfl rfl ?_
        refine tl_aload_n rfl rfl ?_
        refine tl_iload rfl rfl ?_
        show jT _ _ 81 _ _ _ _
        refine tl_aload_n rfl rfl ?_
        refine tl_getr (c := 6) (k9 := 10) (b := 345) rfl rfl rfl rfl ?_
        refine tl_iload rfl rfl ?_
        refine tl_v1i (c9 := 3) (c_Or_placeAt l Or345 mem (sx) ⟨by omega, by omega⟩ (by omega) (by omega)) rfl rfl rfl rfl rfl (Nat.le_of_ble_eq_true rfl) (fun z1 h1 p1 => ?_)
        obtain ⟨q1, p1⟩ := p1
        have q1 := q1.symm
        subst q1
        rw [if_pos (by omega), show mem 346 sx.toNat = g 0 sx.toNat by omega] at p1
        subst p1
        refine tl_aload_n rfl rfl ?_
        refine tl_getr (c := 6) (k9 := 10) (b := 345) rfl rfl rfl rfl ?_
        refine tl_iload rfl rfl ?_
        show jT _ _ 96 _ _ _ _
        refine tl_v1i (c9 := 3) (c_Or_valueAt l Or345 mem (sx) ⟨by omega, by omega⟩ (by omega) (by omega)) rfl rfl rfl rfl rfl (Nat.le_of_ble_eq_true rfl) (fun z2 h2 p2 => ?_)
        obtain ⟨q2, p2⟩ := p2
        have q2 := q2.symm
        subst q2
        rw [if_pos (by omega), show mem 347 sx.toNat = g 1 sx.toNat by omega] at p2
        subst p2
        refine tl_v4v (c9 := 1) (k_plan l mem g R 1000 (L ++ cpL S p t) k9 (by omega) sx (g 0 sx.toNat) (g 1 sx.toNat) (by rw [(bg_s (R := R)).1, if_pos (by omega)]) (by rw [bg_s.2.1, if_pos (by omega)])) rfl rfl rfl rfl rfl (Nat.le_of_ble_eq_true rfl) (fun h9 p9 => ?_)
        obtain ⟨k2, f2⟩ := p9
        refine tl_iinc rfl rfl rfl ?_
        refine tl_goto (tgt := 44) rfl rfl ?_
        show jT _ _ 44 _ _ _ _
        -- leaf 1 at 44
        exact ih (t + 1) h9 (some (.int (jI sx))) (by omega) ⟨by omega, by rw [show cpL S p (t + 1) = cpL S p t ++ [sx] from by rw [cpL, es], ← List.append_assoc]; exact k2, fr.trans f2⟩
      · show jT _ _ 62 _ _ _ _
        refine tl_iload rfl rfl ?_
        refine tl_goto (tgt := 74) rfl rfl ?_
        refine tl_iadd rfl ?_
        first | rw [show S 4 p + (t : Int) = sx by omega] | rw [show S 4 p + (S 2 p - 1 - (t : Int)) = sx by omega]
        show jT _ _ 75 _ _ _ _
        refine tl_istore rfl (Nat.le_of_ble_eq_true rfl) rfl ?_
        refine tl_aload_n rfl rfl ?_
        refine tl_aload_n rfl rfl ?_
        refine tl_iload rfl rfl ?_
        refine tl_aload_n rfl rfl ?_
        refine tl_getr (c := 6) (k9 := 10) (b := 345) rfl rfl rfl rfl ?_
        refine tl_iload rfl rfl ?_
        show jT _ _ 87 _ _ _ _
        refine tl_v1i (c9 := 3) (c_Or_placeAt l Or345 mem (sx) ⟨by omega, by omega⟩ (by omega) (by omega)) rfl rfl rfl rfl rfl (Nat.le_of_ble_eq_true rfl) (fun z1 h1 p1 => ?_)
        obtain ⟨q1, p1⟩ := p1
        have q1 := q1.symm
        subst q1
        rw [if_pos (by omega), show mem 346 sx.toNat = g 0 sx.toNat by omega] at p1
        subst p1
        refine tl_aload_n rfl rfl ?_
        refine tl_getr (c := 6) (k9 := 10) (b := 345) rfl rfl rfl rfl ?_
        refine tl_iload rfl rfl ?_
        refine tl_v1i (c9 := 3) (c_Or_valueAt l Or345 mem (sx) ⟨by omega, by omega⟩ (by omega) (by omega)) rfl rfl rfl rfl rfl (Nat.le_of_ble_eq_true rfl) (fun z2 h2 p2 => ?_)
        obtain ⟨q2, p2⟩ := p2
        have q2 := q2.symm
        subst q2
        rw [if_pos (by omega), show mem 347 sx.toNat = g 1 sx.toNat by omega] at p2
        subst p2
        refine tl_v4v (c9 := 1) (k_plan l mem g R 1000 (L ++ cpL S p t) k9 (by omega) sx (g 0 sx.toNat) (g 1 sx.toNat) (by rw [(bg_s (R := R)).1, if_pos (by omega)]) (by rw [bg_s.2.1, if_pos (by omega)])) rfl rfl rfl rfl rfl (Nat.le_of_ble_eq_true rfl) (fun h9 p9 => ?_)
        obtain ⟨k2, f2⟩ := p9
        refine tl_iinc rfl rfl rfl ?_
        show jT _ _ 105 _ _ _ _
        refine tl_goto (tgt := 44) rfl rfl ?_
        show jT _ _ 44 _ _ _ _
        -- leaf 2 at 44
        exact ih (t + 1) h9 (some (.int (jI sx))) (by omega) ⟨by omega, by rw [show cpL S p (t + 1) = cpL S p t ++ [sx] from by rw [cpL, es], ← List.append_assoc]; exact k2, fr.trans f2⟩
set_option maxRecDepth 20000 in
set_option maxHeartbeats 1000000 in
theorem k_planCopy (l : Launch) (h : jH) (S : jH) (n : Nat) (sb : SB9 S n) (g : jH) (R : Nat → Int) (N : Nat) (hv : OGv g N) (hg : OG h 345 346 347 g N) (kp : PTK h S n) (p : Nat) (hp : p < n) (hN : S 4 p + S 2 p ≤ (N : Int)) (L : List Int) (l64 : (L.length : Int) + S 2 p ≤ 64) (k9 : PLK h 1000 L g R) : cV l 19 [.ref 356, .ref 339, .int (jI (p : Int)), .ref 1] h (fun h' => PLK h' 1000 (L ++ cpL S p (S 2 p).toNat) g R ∧ FPL h h') := by
  have n99 := sb.1
  have sp := sb.2 p hp
  have sp1 := sp.1
  have sp2 := sp.2.1
  have sp4 := sp.2.2
  have kpp := kp p hp
  refine cV.of rfl rfl ?_
  refine tl_iload_n rfl rfl ?_
  refine tl_if_lt (tgt := 10) rfl rfl ⟨by omega, by omega⟩ (fun c1 => ?_) (fun c1 => ?_)
  · skip
    exfalso; omega
  · show jT _ _ 4 _ _ _ _
    refine tl_iload_n rfl rfl ?_
    refine tl_bipush rfl rfl ?_
    refine tl_icmp_lt (tgt := 11) rfl rfl ⟨by omega, by omega⟩ ⟨by omega, by omega⟩ (fun c2 => ?_) (fun c2 => ?_)
    · skip
      refine tl_aload_n rfl rfl ?_
      show jT _ _ 12 _ _ _ _
      refine tl_getr (c := 6) (k9 := 6) (b := 341) rfl rfl rfl rfl ?_
      refine tl_iload_n rfl rfl ?_
      refine tl_iald (n := 100) rfl rfl rfl (by omega) (by omega) ?_
      rw [Int.toNat_natCast, kpp.2.1]
      refine tl_istore rfl (Nat.le_of_ble_eq_true rfl) rfl ?_
      refine tl_aload_n rfl rfl ?_
      refine tl_getr (c := 6) (k9 := 5) (b := 340) rfl rfl rfl rfl ?_
      refine tl_iload_n rfl rfl ?_
      show jT _ _ 24 _ _ _ _
      refine tl_iald (n := 100) rfl rfl rfl (by omega) (by omega) ?_
      rw [Int.toNat_natCast, kpp.1]
      refine tl_aload_n rfl rfl ?_
      refine tl_getr (c := 6) (k9 := 8) (b := 343) rfl rfl rfl rfl ?_
      refine tl_iload_n rfl rfl ?_
      refine tl_iald (n := 100) rfl rfl rfl (by omega) (by omega) ?_
      rw [Int.toNat_natCast, kpp.2.2.2]
      refine tl_icmp_lt (tgt := 38) rfl rfl ⟨by omega, by omega⟩ ⟨by omega, by omega⟩ (fun c3 => ?_) (fun c3 => ?_)
      · skip
        refine tl_iconst rfl ?_
        show jT _ _ 39 _ _ _ _
        refine tl_istore rfl (Nat.le_of_ble_eq_true rfl) rfl ?_
        refine tl_iconst rfl ?_
        refine tl_istore rfl (Nat.le_of_ble_eq_true rfl) rfl ?_
        show jT _ _ 44 _ _ _ _
        -- leaf 0 at 44
        exact k_pc_lp l h S n sb g R N hv hg kp p hp hN L l64 _ (by omega) _ (fun mem hz => ⟨rfl, hz⟩) _ 0 h _ (Nat.lt_succ_self _) ⟨by omega, by rw [cpL, List.append_nil]; exact k9, FPL.rfl'⟩
      · show jT _ _ 34 _ _ _ _
        refine tl_iconst rfl ?_
        refine tl_goto (tgt := 39) rfl rfl ?_
        refine tl_istore rfl (Nat.le_of_ble_eq_true rfl) rfl ?_
        refine tl_iconst rfl ?_
        show jT _ _ 42 _ _ _ _
        refine tl_istore rfl (Nat.le_of_ble_eq_true rfl) rfl ?_
        show jT _ _ 44 _ _ _ _
        -- leaf 1 at 44
        exact k_pc_lp l h S n sb g R N hv hg kp p hp hN L l64 _ (by omega) _ (fun mem hz => ⟨rfl, hz⟩) _ 0 h _ (Nat.lt_succ_self _) ⟨by omega, by rw [cpL, List.append_nil]; exact k9, FPL.rfl'⟩
    · show jT _ _ 10 _ _ _ _
      exfalso; omega
set_option maxRecDepth 20000 in
set_option maxHeartbeats 1000000 in
theorem k_planKept (l : Launch) (h : jH) (g : jH) (R : Nat → Int) (hR : RS h 1 R) (N : Nat) (hv : OGv g N) (hs9 : OGs g R N) (hg : OG h 345 346 347 g N) (i : Nat) (hi : i < N) (c : Nat) (L : List Int) (l64 : L.length < 64) (lc : c ≤ L.length) (k9 : PLK h c L g R) : cV l 20 [.ref 356, .ref 339, .int (jI (i : Int)), .ref 1] h (fun h' => PLK h' c (L ++ [(i : Int)]) g R ∧ FPL h h') := by
  have n64 := hv.1
  have e4 := hg.1
  have gi := hg.2 i hi
  have gs := hs9 i hi
  have gsa := gs.1
  have gsb := gs.2.1
  have gsc := gs.2.2
  have ok := hR.ok
  obtain ⟨k1, k2, k3, k4, k5, k6, k7⟩ := ok
  refine cV.of rfl rfl ?_
  refine tl_aload_n rfl rfl ?_
  refine tl_getr (c := 6) (k9 := 10) (b := 345) rfl rfl rfl rfl ?_
  refine tl_iload_n rfl rfl ?_
  refine tl_v1i (c9 := 3) (c_Or_placeAt l Or345 h (i : Int) ⟨by omega, by omega⟩ (by omega) (by omega)) rfl rfl rfl rfl rfl (Nat.le_of_ble_eq_true rfl) (fun z1 h1 p1 => ?_)
  obtain ⟨q1, p1⟩ := p1
  have q1 := q1.symm
  subst q1
  rw [if_pos (by omega), Int.toNat_natCast, gi.1] at p1
  subst p1
  refine tl_istore rfl (Nat.le_of_ble_eq_true rfl) rfl ?_
  refine tl_iload rfl rfl ?_
  show jT _ _ 12 _ _ _ _
  refine tl_iconst rfl ?_
  refine tl_icmp_ne (tgt := 20) rfl rfl ⟨by omega, by omega⟩ ⟨by omega, by omega⟩ (fun c1 => ?_) (fun c1 => ?_)
  · skip
    refine tl_aload_n rfl rfl ?_
    refine tl_getr (c := 9) (k9 := 0) (b := 2) rfl rfl rfl rfl ?_
    refine tl_iload rfl rfl ?_
    refine tl_v1i (c9 := 8) (k_oget l h R hR (g 0 i) ⟨by omega, by omega⟩) rfl rfl rfl rfl rfl (Nat.le_of_ble_eq_true rfl) (fun z2 h2 p2 => ?_)
    obtain ⟨q2, p2⟩ := p2
    have q2 := q2.symm
    subst q2
    rw [if_pos (by omega)] at p2
    subst p2
    refine tl_istore rfl (Nat.le_of_ble_eq_true rfl) rfl ?_
    show jT _ _ 31 _ _ _ _
    refine tl_aload_n rfl rfl ?_
    refine tl_aload_n rfl rfl ?_
    refine tl_iload_n rfl rfl ?_
    refine tl_iconst rfl ?_
    refine tl_iload rfl rfl ?_
    refine tl_aload_n rfl rfl ?_
    refine tl_getr (c := 6) (k9 := 10) (b := 345) rfl rfl rfl rfl ?_
    show jT _ _ 41 _ _ _ _
    refine tl_iload_n rfl rfl ?_
    refine tl_v1i (c9 := 3) (c_Or_valueAt l Or345 h (i : Int) ⟨by omega, by omega⟩ (by omega) (by omega)) rfl rfl rfl rfl rfl (Nat.le_of_ble_eq_true rfl) (fun z3 h3 p3 => ?_)
    obtain ⟨q3, p3⟩ := p3
    have q3 := q3.symm
    subst q3
    rw [if_pos (by omega), Int.toNat_natCast, gi.2] at p3
    subst p3
    refine tl_iadd rfl ?_
    refine tl_v4v (c9 := 1) (k_plan l h g R c L k9 l64 (i : Int) (-1) _ (by rw [(bg_s (R := R)).1, if_neg (by omega)]) (by rw [bg_s.2.1, if_neg (by omega), Int.toNat_natCast, kpV]; first | rw [if_pos (by omega)] | rw [if_neg (by omega)])) rfl rfl rfl rfl rfl (Nat.le_of_ble_eq_true rfl) (fun h9 p9 => ?_)
    refine tl_ret rfl ?_
    -- leaf 0 at 49
    exact ⟨rfl, p9⟩
  · show jT _ _ 16 _ _ _ _
    refine tl_iconst rfl ?_
    refine tl_goto (tgt := 29) rfl rfl ?_
    show jT _ _ 29 _ _ _ _
    refine tl_istore rfl (Nat.le_of_ble_eq_true rfl) rfl ?_
    refine tl_aload_n rfl rfl ?_
    refine tl_aload_n rfl rfl ?_
    refine tl_iload_n rfl rfl ?_
    refine tl_iconst rfl ?_
    refine tl_iload rfl rfl ?_
    refine tl_aload_n rfl rfl ?_
    show jT _ _ 38 _ _ _ _
    refine tl_getr (c := 6) (k9 := 10) (b := 345) rfl rfl rfl rfl ?_
    refine tl_iload_n rfl rfl ?_
    refine tl_v1i (c9 := 3) (c_Or_valueAt l Or345 h (i : Int) ⟨by omega, by omega⟩ (by omega) (by omega)) rfl rfl rfl rfl rfl (Nat.le_of_ble_eq_true rfl) (fun z3 h3 p3 => ?_)
    obtain ⟨q3, p3⟩ := p3
    have q3 := q3.symm
    subst q3
    rw [if_pos (by omega), Int.toNat_natCast, gi.2] at p3
    subst p3
    refine tl_iadd rfl ?_
    refine tl_v4v (c9 := 1) (k_plan l h g R c L k9 l64 (i : Int) (-1) _ (by rw [(bg_s (R := R)).1, if_neg (by omega)]) (by rw [bg_s.2.1, if_neg (by omega), Int.toNat_natCast, kpV]; first | rw [if_pos (by omega)] | rw [if_neg (by omega)])) rfl rfl rfl rfl rfl (Nat.le_of_ble_eq_true rfl) (fun h9 p9 => ?_)
    refine tl_ret rfl ?_
    -- leaf 1 at 49
    exact ⟨rfl, p9⟩
set_option maxRecDepth 20000 in
set_option maxHeartbeats 1000000 in
theorem k_pr_A (l : Launch) (h : jH) (S : jH) (n : Nat) (sb : SB9 S n) (g : jH) (R : Nat → Int) (N : Nat) (hv : OGv g N) (hs9 : OGs g R N) (hR : RS h 1 R) (hg : OG h 345 346 347 g N) (hn : h 339 4 = (n : Int)) (kp : PTK h S n) (Q : jH) (k9 : ORK h S n Q) (oi : OI S n (orW S n) Q) (hN : ∀ q, q < n → S 4 q + S 2 q + S 3 q ≤ (N : Int) ∧ 0 ≤ S 3 q) (lc : (plC S Q (Q 2 0).toNat).length ≤ 64) (P : Option Value → jH → Prop) (hx : ∀ mem, (PLK mem 1000 (plC S Q (Q 2 0).toNat) g R ∧ FPL h mem) → jT l 18 39 [some (.ref 356), some (.ref 339), some (.ref 1), some (.int (jI (Q 2 0))), none, none] [] mem P) : ∀ (m : Nat) (k : Nat) (mem : jH), (Q 2 0).toNat - k < m → ((k : Int) ≤ Q 2 0 ∧ PLK mem 1000 (plC S Q k) g R ∧ FPL h mem) → jT l 18 7 [some (.ref 356), some (.ref 339), some (.ref 1), some (.int (jI ((k : Int)))), none, none] [] mem P := by
  have n99 := sb.1
  have wb := orW_b (S := S) (n := n)
  have oi2 := oi.2.2.1
  intro m
  induction m with
  | zero => intro k mem hk; omega
  | succ m ih =>
    intro k mem hk hi
    obtain ⟨i0, kk, fr⟩ := hi
    have e1 : mem 356 1 = Q 2 0 := by rw [fr.2 1 (by decide)]; exact k9.2.1
    have kf : Q 2 0 ≤ (k : Int) ∨ ((k : Int) < Q 2 0 ∧ mem 357 k = Q 1 k ∧ 0 ≤ Q 1 k ∧ Q 1 k < (n : Int)) := by
      by_cases c : (k : Int) < Q 2 0
      · have a := oi.2.2.2 k c
        exact Or.inr ⟨c, by rw [fr.1 357 (by decide) (by decide) (by decide) (by decide)]; exact k9.2.2.2.2 k c, a.1, a.2.1⟩
      · exact Or.inl (by omega)
    refine tl_iload_n rfl rfl ?_
    refine tl_aload_n rfl rfl ?_
    refine tl_geti (c := 1) (k9 := 1) rfl rfl rfl ?_
    rw [e1]
    refine tl_icmp_ge (tgt := 39) rfl rfl ⟨by omega, by omega⟩ ⟨by omega, by omega⟩ (fun c1 => ?_) (fun c1 => ?_)
    · skip
      show jT _ _ 39 _ _ _ _
      -- leaf 0 at 39
      have e : k = (Q 2 0).toNat := by omega
      subst e
      refine jT.loc ?_ (hx mem ⟨kk, fr⟩)
      rw [show (((Q 2 0).toNat : Nat) : Int) = Q 2 0 by omega]; try rfl
    · show jT _ _ 15 _ _ _ _
      refine tl_iload_n rfl rfl ?_
      refine tl_bipush rfl rfl ?_
      show jT _ _ 18 _ _ _ _
      refine tl_icmp_ge (tgt := 39) rfl rfl ⟨by omega, by omega⟩ ⟨by omega, by omega⟩ (fun c2 => ?_) (fun c2 => ?_)
      · skip
        exfalso; omega
      · show jT _ _ 21 _ _ _ _
        obtain ⟨p, ep⟩ : ∃ p : Nat, Q 1 k = (p : Int) := ⟨(Q 1 k).toNat, by omega⟩
        have sp := sb.2 p (by omega)
        have sp2 := sp.2.1
        have sN := hN p (by omega)
        have pk : plC S Q (k + 1) = plC S Q k ++ cpL S p (S 2 p).toNat := by rw [plC, ep, Int.toNat_natCast]
        have pm := plC_m (S := S) (Q := Q) (a := k + 1) ((Q 2 0).toNat - (k + 1))
        rw [show k + 1 + ((Q 2 0).toNat - (k + 1)) = (Q 2 0).toNat by omega, pk, List.length_append, cpL_len] at pm
        refine tl_aload_n rfl rfl ?_
        refine tl_aload_n rfl rfl ?_
        refine tl_aload_n rfl rfl ?_
        refine tl_getr (c := 1) (k9 := 0) (b := 357) rfl rfl rfl rfl ?_
        refine tl_iload_n rfl rfl ?_
        refine tl_iald (n := 100) rfl rfl rfl (by omega) (by omega) ?_
        rw [Int.toNat_natCast, show mem 357 k = (p : Int) by omega]
        show jT _ _ 29 _ _ _ _
        refine tl_aload_n rfl rfl ?_
        refine tl_v3v (c9 := 1) (k_planCopy l mem S n sb g R N hv (hg.of (fr.1 345 (by decide) (by decide) (by decide) (by decide)) (fr.1 346 (by decide) (by decide) (by decide) (by decide)) (fr.1 347 (by decide) (by decide) (by decide) (by decide))) (kp.of (fun x x1 x2 => fr.1 x (by omega) (by omega) (by omega) (by omega))) p (by omega) (by omega) (plC S Q k) (by omega) kk) rfl rfl rfl rfl rfl (Nat.le_of_ble_eq_true rfl) (fun h9 p9 => ?_)
        obtain ⟨k2, f2⟩ := p9
        refine tl_iinc rfl rfl rfl ?_
        refine tl_goto (tgt := 7) rfl rfl ?_
        show jT _ _ 7 _ _ _ _
        -- leaf 1 at 7
        exact ih (k + 1) h9 (by omega) ⟨by omega, by rw [pk]; exact k2, fr.trans f2⟩
set_option maxRecDepth 20000 in
set_option maxHeartbeats 1000000 in
theorem k_pr_C (l : Launch) (h : jH) (S : jH) (n : Nat) (sb : SB9 S n) (g : jH) (R : Nat → Int) (N : Nat) (hv : OGv g N) (hs9 : OGs g R N) (hR : RS h 1 R) (hg : OG h 345 346 347 g N) (hn : h 339 4 = (n : Int)) (kp : PTK h S n) (Q : jH) (k9 : ORK h S n Q) (oi : OI S n (orW S n) Q) (hN : ∀ q, q < n → S 4 q + S 2 q + S 3 q ≤ (N : Int) ∧ 0 ≤ S 3 q) (r0 : R 1167 = 0) {N9 p0 : Nat} {os ns : Int} (I : PTI N9 os ns p0 n S) {D X : List Int} (eg : g = rg S D X n) (LC : List Int) (lX : LC.length + (plX S Q g n N).length ≤ 64) (i : Nat) (hi9 : i < n) (f9 : Int) (hf9 : f9 = 0 ∧ Q 0 i = 2 ∨ f9 = S 2 i ∧ Q 0 i ≠ 2) (P : Option Value → jH → Prop) (hx : ∀ mem y5, (PLK mem LC.length (LC ++ plX S Q g n ((S 4 i).toNat + (S 2 i).toNat + (S 3 i).toNat)) g R ∧ FPL h mem) → jT l 18 119 [some (.ref 356), some (.ref 339), some (.ref 1), some (.int (jI ((i : Int)))), some (.int (jI (f9))), y5] [] mem P) : ∀ (m : Nat) (k : Nat) (mem : jH), (S 2 i).toNat + (S 3 i).toNat - k < m → ((f9 ≤ (k : Int) ∧ (k : Int) ≤ S 2 i + S 3 i) ∧ PLK mem LC.length (LC ++ plX S Q g n ((S 4 i).toNat + k)) g R ∧ FPL h mem) → jT l 18 80 [some (.ref 356), some (.ref 339), some (.ref 1), some (.int (jI ((i : Int)))), some (.int (jI (f9))), some (.int (jI ((k : Int))))] [] mem P := by
  have n64 := hv.1
  have n99 := sb.1
  have sp := sb.2 i hi9
  have sp2 := sp.2.1
  have sp4 := sp.2.2
  have sN := hN i hi9
  have kpi := kp i hi9
  intro m
  induction m with
  | zero => intro k mem hk; omega
  | succ m ih =>
    intro k mem hk hi
    obtain ⟨i0, kk, fr⟩ := hi
    have ad : (k : Int) < S 2 i + S 3 i → plX S Q g n ((S 4 i).toNat + (k + 1)) = plX S Q g n ((S 4 i).toNat + k) ++ [((((S 4 i).toNat + k : Nat)) : Int)] := fun c => by
      have kt : kpt S Q g n ((S 4 i).toNat + k) = true := by
        rw [eg]
        by_cases d : (k : Int) < S 2 i
        · rw [I.kC hi9 (by omega) (by omega)]; exact decide_eq_true (by omega)
        · exact I.kX hi9 (by omega) (by omega)
      rw [← Nat.add_assoc, plX, if_pos kt]
    have ll : (k : Int) < S 2 i + S 3 i → (LC ++ plX S Q g n ((S 4 i).toNat + k)).length < 64 := fun c => by
      have a := plX_m (S := S) (Q := Q) (g := g) (n := n) (a := (S 4 i).toNat + (k + 1)) (N - ((S 4 i).toNat + (k + 1)))
      rw [show (S 4 i).toNat + (k + 1) + (N - ((S 4 i).toNat + (k + 1))) = N by omega, ad c, List.length_append] at a
      rw [List.length_append]
      change _ + 1 ≤ _ at a
      omega
    have m1 := fr.1 341 (by decide) (by decide) (by decide) (by decide)
    have m2 := fr.1 342 (by decide) (by decide) (by decide) (by decide)
    have m3 := fr.1 343 (by decide) (by decide) (by decide) (by decide)
    refine tl_iload rfl rfl ?_
    refine tl_aload_n rfl rfl ?_
    refine tl_getr (c := 6) (k9 := 6) (b := 341) rfl rfl rfl rfl ?_
    refine tl_iload_n rfl rfl ?_
    refine tl_iald (n := 100) rfl rfl rfl (by omega) (by omega) ?_
    rw [m1, Int.toNat_natCast, kpi.2.1]
    refine tl_aload_n rfl rfl ?_
    show jT _ _ 89 _ _ _ _
    refine tl_getr (c := 6) (k9 := 7) (b := 342) rfl rfl rfl rfl ?_
    refine tl_iload_n rfl rfl ?_
    refine tl_iald (n := 100) rfl rfl rfl (by omega) (by omega) ?_
    rw [m2, Int.toNat_natCast, kpi.2.2.1]
    refine tl_iadd rfl ?_
    refine tl_icmp_ge (tgt := 119) rfl rfl ⟨by omega, by omega⟩ ⟨by omega, by omega⟩ (fun c1 => ?_) (fun c1 => ?_)
    · skip
      show jT _ _ 119 _ _ _ _
      -- leaf 0 at 119
      have e : k = (S 2 i).toNat + (S 3 i).toNat := by omega
      subst e
      exact hx mem _ ⟨by rw [Nat.add_assoc]; exact kk, fr⟩
    · show jT _ _ 98 _ _ _ _
      refine tl_aload_n rfl rfl ?_
      refine tl_aload_n rfl rfl ?_
      show jT _ _ 100 _ _ _ _
      refine tl_aload_n rfl rfl ?_
      refine tl_getr (c := 6) (k9 := 8) (b := 343) rfl rfl rfl rfl ?_
      refine tl_iload_n rfl rfl ?_
      refine tl_iald (n := 100) rfl rfl rfl (by omega) (by omega) ?_
      rw [m3, Int.toNat_natCast, kpi.2.2.2]
      refine tl_iload rfl rfl ?_
      refine tl_iadd rfl ?_
      rw [show S 4 i + (k : Int) = (((S 4 i).toNat + k : Nat) : Int) by omega]
      refine tl_aload_n rfl rfl ?_
      show jT _ _ 110 _ _ _ _
      refine tl_v3v (c9 := 1) (k_planKept l mem g R (hR.of16 r0 (fun x x1 x2 => fr.1 x (by omega) (by omega) (by omega) (by omega))) N hv hs9 (hg.of (fr.1 345 (by decide) (by decide) (by decide) (by decide)) (fr.1 346 (by decide) (by decide) (by decide) (by decide)) (fr.1 347 (by decide) (by decide) (by decide) (by decide))) ((S 4 i).toNat + k) (by omega) LC.length _ (ll (by omega)) (by rw [List.length_append]; omega) kk) rfl rfl rfl rfl rfl (Nat.le_of_ble_eq_true rfl) (fun h9 p9 => ?_)
      obtain ⟨k2, f2⟩ := p9
      refine tl_iinc rfl rfl rfl ?_
      refine tl_goto (tgt := 80) rfl rfl ?_
      show jT _ _ 80 _ _ _ _
      -- leaf 1 at 80
      exact ih (k + 1) h9 (by omega) ⟨⟨by omega, by omega⟩, by rw [ad (by omega), ← List.append_assoc]; exact k2, fr.trans f2⟩
set_option maxRecDepth 20000 in
set_option maxHeartbeats 1000000 in
theorem k_pr_B (l : Launch) (h : jH) (S : jH) (n : Nat) (sb : SB9 S n) (g : jH) (R : Nat → Int) (N : Nat) (hv : OGv g N) (hs9 : OGs g R N) (hR : RS h 1 R) (hg : OG h 345 346 347 g N) (hn : h 339 4 = (n : Int)) (kp : PTK h S n) (Q : jH) (k9 : ORK h S n Q) (oi : OI S n (orW S n) Q) (hN : ∀ q, q < n → S 4 q + S 2 q + S 3 q ≤ (N : Int) ∧ 0 ≤ S 3 q) (r0 : R 1167 = 0) {N9 p0 : Nat} {os ns : Int} (I : PTI N9 os ns p0 n S) {D X : List Int} (eg : g = rg S D X n) (LC : List Int) (lX : LC.length + (plX S Q g n N).length ≤ 64) (eN : (N : Int) = bq S n) (P : Option Value → jH → Prop) (hP : ∀ mem, (PLK mem LC.length (LC ++ plX S Q g n N) g R ∧ FPL h mem) → P none mem) : ∀ (m : Nat) (i : Nat) (mem : jH) (y4 : Option Value) (y5 : Option Value), n - i < m → (i ≤ n ∧ PLK mem LC.length (LC ++ plX S Q g n (bq S i).toNat) g R ∧ FPL h mem) → jT l 18 41 [some (.ref 356), some (.ref 339), some (.ref 1), some (.int (jI ((i : Int)))), y4, y5] [] mem P := by
  have n64 := hv.1
  have n99 := sb.1
  intro m
  induction m with
  | zero => intro i mem y4 y5 hk; omega
  | succ m ih =>
    intro i mem y4 y5 hk hi
    obtain ⟨i0, kk, fr⟩ := hi
    have e4 : mem 339 4 = (n : Int) := by rw [fr.1 339 (by decide) (by decide) (by decide) (by decide)]; exact hn
    have kf : n ≤ i ∨ (i < n ∧ mem 359 i = dpC (Q 0) i ∧ (dpC (Q 0) i = 1 ∧ Q 0 i = 2 ∨ dpC (Q 0) i = 0 ∧ Q 0 i ≠ 2) ∧ mem 341 i = S 2 i ∧ (0 ≤ S 2 i ∧ S 2 i ≤ 64) ∧ 0 ≤ S 3 i ∧ S 4 i = bq S i ∧ 0 ≤ S 4 i ∧ bq S (i + 1) = bq S i + (S 2 i + S 3 i)) := by
      by_cases c : i < n
      · refine Or.inr ⟨c, ?_, ?_, ?_, (sb.2 i c).2.1, (hN i c).2, I.bq'.1 i c, (sb.2 i c).2.2.1, bq_s⟩
        · rw [fr.1 359 (by decide) (by decide) (by decide) (by decide)]; exact (k9.1 i c).2.1
        · unfold dpC; by_cases d : Q 0 i = 2; (rw [if_pos d]; exact Or.inl ⟨rfl, d⟩); (rw [if_neg d]; exact Or.inr ⟨rfl, d⟩)
        · rw [fr.1 341 (by decide) (by decide) (by decide) (by decide)]; exact (kp i c).2.1
      · exact Or.inl (by omega)
    refine tl_iload_n rfl rfl ?_
    refine tl_aload_n rfl rfl ?_
    refine tl_geti (c := 6) (k9 := 4) rfl rfl rfl ?_
    rw [e4]
    refine tl_icmp_ge (tgt := 125) rfl rfl ⟨by omega, by omega⟩ ⟨by omega, by omega⟩ (fun c1 => ?_) (fun c1 => ?_)
    · skip
      refine tl_ret rfl ?_
      -- leaf 0 at 125
      have e : i = n := by omega
      subst e
      rw [← eN, Int.toNat_natCast] at kk
      exact hP mem ⟨kk, fr⟩
    · show jT _ _ 49 _ _ _ _
      refine tl_iload_n rfl rfl ?_
      show jT _ _ 50 _ _ _ _
      refine tl_bipush rfl rfl ?_
      refine tl_icmp_ge (tgt := 125) rfl rfl ⟨by omega, by omega⟩ ⟨by omega, by omega⟩ (fun c2 => ?_) (fun c2 => ?_)
      · skip
        exfalso; omega
      · show jT _ _ 55 _ _ _ _
        refine tl_aload_n rfl rfl ?_
        refine tl_getr (c := 1) (k9 := 7) (b := 359) rfl rfl rfl rfl ?_
        refine tl_iload_n rfl rfl ?_
        refine tl_zald (n := 100) rfl rfl rfl (by omega) (by omega) ?_
        rw [Int.toNat_natCast, show mem 359 i = dpC (Q 0) i by omega]
        refine tl_if_eq (tgt := 68) rfl rfl ⟨by omega, by omega⟩ (fun c3 => ?_) (fun c3 => ?_)
        · skip
          show jT _ _ 68 _ _ _ _
          refine tl_aload_n rfl rfl ?_
          refine tl_getr (c := 6) (k9 := 6) (b := 341) rfl rfl rfl rfl ?_
          refine tl_iload_n rfl rfl ?_
          refine tl_iald (n := 100) rfl rfl rfl (by omega) (by omega) ?_
          rw [Int.toNat_natCast, show mem 341 i = S 2 i by omega]
          refine tl_istore rfl (Nat.le_of_ble_eq_true rfl) rfl ?_
          refine tl_iload rfl rfl ?_
          refine tl_istore rfl (Nat.le_of_ble_eq_true rfl) rfl ?_
          show jT _ _ 80 _ _ _ _
          -- leaf 1 at 80
          have hi9 : i < n := by omega
          have ps := I.plS (Q := Q) (D := D) (X := X) hi9
          rw [← eg] at ps
          rw [show (bq S i).toNat = (S 4 i).toNat by omega] at kk
          first
            | (have f0 : Q 0 i = 2 := by omega
               refine jT.loc ?_ (k_pr_C l h S n sb g R N hv hs9 hR hg hn kp Q k9 oi hN r0 I eg LC lX i hi9 0 (Or.inl ⟨rfl, f0⟩) _ (fun mem2 y5 hj => ?_) _ 0 mem (Nat.lt_succ_self _) ⟨⟨by omega, by omega⟩, kk, fr⟩)
               · rfl
               · skip
                 refine tl_iinc rfl rfl rfl ?_
                 refine tl_goto (tgt := 41) rfl rfl ?_
                 show jT _ _ 41 _ _ _ _
                 -- leaf 0 at 41
                 refine ih (i + 1) mem2 _ _ (by omega) ⟨by omega, ?_, hj.2⟩
                 rw [show (bq S (i + 1)).toNat = (S 4 i).toNat + (S 2 i).toNat + (S 3 i).toNat by omega]
                 exact hj.1)
            | (have f0 : Q 0 i ≠ 2 := by omega
               rw [if_neg f0] at ps
               refine jT.loc ?_ (k_pr_C l h S n sb g R N hv hs9 hR hg hn kp Q k9 oi hN r0 I eg LC lX i hi9 (S 2 i) (Or.inr ⟨rfl, f0⟩) _ (fun mem2 y5 hj => ?_) _ (S 2 i).toNat mem (Nat.lt_succ_self _) ⟨⟨by omega, by omega⟩, by rw [ps.1]; exact kk, fr⟩)
               · rw [show (((S 2 i).toNat : Nat) : Int) = S 2 i by omega]; try rfl
               · skip
                 refine tl_iinc rfl rfl rfl ?_
                 refine tl_goto (tgt := 41) rfl rfl ?_
                 show jT _ _ 41 _ _ _ _
                 -- leaf 0 at 41
                 refine ih (i + 1) mem2 _ _ (by omega) ⟨by omega, ?_, hj.2⟩
                 rw [show (bq S (i + 1)).toNat = (S 4 i).toNat + (S 2 i).toNat + (S 3 i).toNat by omega]
                 exact hj.1)
        · show jT _ _ 64 _ _ _ _
          show jT _ _ 64 _ _ _ _
          refine tl_iconst rfl ?_
          refine tl_goto (tgt := 74) rfl rfl ?_
          refine tl_istore rfl (Nat.le_of_ble_eq_true rfl) rfl ?_
          refine tl_iload rfl rfl ?_
          refine tl_istore rfl (Nat.le_of_ble_eq_true rfl) rfl ?_
          show jT _ _ 80 _ _ _ _
          -- leaf 2 at 80
          have hi9 : i < n := by omega
          have ps := I.plS (Q := Q) (D := D) (X := X) hi9
          rw [← eg] at ps
          rw [show (bq S i).toNat = (S 4 i).toNat by omega] at kk
          first
            | (have f0 : Q 0 i = 2 := by omega
               refine jT.loc ?_ (k_pr_C l h S n sb g R N hv hs9 hR hg hn kp Q k9 oi hN r0 I eg LC lX i hi9 0 (Or.inl ⟨rfl, f0⟩) _ (fun mem2 y5 hj => ?_) _ 0 mem (Nat.lt_succ_self _) ⟨⟨by omega, by omega⟩, kk, fr⟩)
               · rfl
               · skip
                 refine tl_iinc rfl rfl rfl ?_
                 refine tl_goto (tgt := 41) rfl rfl ?_
                 show jT _ _ 41 _ _ _ _
                 -- leaf 0 at 41
                 refine ih (i + 1) mem2 _ _ (by omega) ⟨by omega, ?_, hj.2⟩
                 rw [show (bq S (i + 1)).toNat = (S 4 i).toNat + (S 2 i).toNat + (S 3 i).toNat by omega]
                 exact hj.1)
            | (have f0 : Q 0 i ≠ 2 := by omega
               rw [if_neg f0] at ps
               refine jT.loc ?_ (k_pr_C l h S n sb g R N hv hs9 hR hg hn kp Q k9 oi hN r0 I eg LC lX i hi9 (S 2 i) (Or.inr ⟨rfl, f0⟩) _ (fun mem2 y5 hj => ?_) _ (S 2 i).toNat mem (Nat.lt_succ_self _) ⟨⟨by omega, by omega⟩, by rw [ps.1]; exact kk, fr⟩)
               · rw [show (((S 2 i).toNat : Nat) : Int) = S 2 i by omega]; try rfl
               · skip
                 refine tl_iinc rfl rfl rfl ?_
                 refine tl_goto (tgt := 41) rfl rfl ?_
                 show jT _ _ 41 _ _ _ _
                 -- leaf 0 at 41
                 refine ih (i + 1) mem2 _ _ (by omega) ⟨by omega, ?_, hj.2⟩
                 rw [show (bq S (i + 1)).toNat = (S 4 i).toNat + (S 2 i).toNat + (S 3 i).toNat by omega]
                 exact hj.1)
set_option maxRecDepth 20000 in
set_option maxHeartbeats 1000000 in
theorem k_planRun (l : Launch) (h : jH) (S : jH) (n : Nat) (sb : SB9 S n) (g : jH) (R : Nat → Int) (N : Nat) (hv : OGv g N) (hs9 : OGs g R N) (hR : RS h 1 R) (hg : OG h 345 346 347 g N) (hn : h 339 4 = (n : Int)) (kp : PTK h S n) (Q : jH) (k9 : ORK h S n Q) (oi : OI S n (orW S n) Q) (hN : ∀ q, q < n → S 4 q + S 2 q + S 3 q ≤ (N : Int) ∧ 0 ≤ S 3 q) (r0 : R 1167 = 0) {N9 p0 : Nat} {os ns : Int} (I : PTI N9 os ns p0 n S) {D X : List Int} (eg : g = rg S D X n) (lX : (plC S Q (Q 2 0).toNat).length + (plX S Q g n N).length ≤ 64) (eN : (N : Int) = bq S n) : cV l 18 [.ref 356, .ref 339, .ref 1] h (fun h' => PLK h' (plC S Q (Q 2 0).toNat).length (plC S Q (Q 2 0).toNat ++ plX S Q g n N) g R ∧ FPL h h') := by
  refine cV.of rfl rfl ?_
  refine tl_aload_n rfl rfl ?_
  refine tl_iconst rfl ?_
  refine tl_puti (c := 1) (k9 := 9) rfl rfl rfl rfl ?_
  refine tl_iconst rfl ?_
  refine tl_istore_n rfl (Nat.le_of_ble_eq_true rfl) rfl ?_
  show jT _ _ 7 _ _ _ _
  -- leaf 0 at 7
  refine k_pr_A l (hs h 356 9 0) S n sb g R N hv hs9 (hR.of (fun x x1 x2 => hs_O (by omega))) (hg.of (hs_O (by decide)) (hs_O (by decide)) (hs_O (by decide))) (by rw [hs_o (by decide)]; exact hn) (kp.of (fun x x1 x2 => hs_O (by omega))) Q ⟨fun q hq => by rw [hs_o (by decide), hs_o (by decide), hs_o (by decide)]; exact k9.1 q hq, by rw [hs_k (by decide)]; exact k9.2.1, by rw [hs_k (by decide)]; exact k9.2.2.1, by rw [hs_k (by decide)]; exact k9.2.2.2.1, fun i hi => by rw [hs_o (by decide)]; exact k9.2.2.2.2 i hi⟩ oi hN (by omega) _ (fun mem hi => ?_) _ 0 _ (Nat.lt_succ_self _) ⟨oi.2.2.1.1, ⟨hs_s, fun w hw => absurd hw (by show ¬ w < 0; omega)⟩, FPL.rfl'⟩
  obtain ⟨kk, fr0⟩ := hi
  have fr : FPL h mem := FPL.trans ⟨fun x x1 x2 x3 x4 => hs_O x4, fun q hq => hs_k hq⟩ fr0
  refine tl_iconst rfl ?_
  refine tl_istore_n rfl (Nat.le_of_ble_eq_true rfl) rfl ?_
  show jT _ _ 41 _ _ _ _
  -- leaf 0 at 41
  refine k_pr_B l h S n sb g R N hv hs9 hR hg hn kp Q k9 oi hN r0 I eg (plC S Q (Q 2 0).toNat) lX eN _ (fun mem2 hz => ⟨rfl, hz⟩) _ 0 mem _ _ (Nat.lt_succ_self _) ⟨Nat.zero_le _, ?_, fr⟩
  show PLK mem _ (plC S Q (Q 2 0).toNat ++ []) g R
  rw [List.append_nil]
  exact kk.cc (by omega)
