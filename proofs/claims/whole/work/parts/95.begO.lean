/-! begin, as a whole -/
def LN (N : Int) (L : List Int) : Prop := ∀ x, x ∈ L → 0 ≤ x ∧ x < N
theorem LN.app {N : Int} {A B : List Int} (a : LN N A) (b : LN N B) : LN N (A ++ B) := fun x hx => by
  rcases List.mem_append.mp hx with h | h
  · exact a x h
  · exact b x h
theorem LN.nil {N : Int} : LN N [] := fun x hx => absurd hx (List.not_mem_nil)
theorem LN.one {N x : Int} (h : 0 ≤ x ∧ x < N) : LN N [x] := fun y hy => by rw [List.mem_singleton.mp hy]; exact h
theorem cpL_N {S : jH} {p : Nat} {N : Int} (h4 : 0 ≤ S 4 p) (hN : S 4 p + S 2 p ≤ N) : ∀ t : Nat, (t : Int) ≤ S 2 p → LN N (cpL S p t) := by
  intro t
  induction t with
  | zero => intro _; exact LN.nil
  | succ t ih =>
    intro h
    exact (ih (by omega)).app (LN.one (by split <;> omega))
theorem plC_N {S Q : jH} {n : Nat} {N : Int} (sb : SB9 S n) (hN : ∀ q, q < n → S 4 q + S 2 q + S 3 q ≤ N ∧ 0 ≤ S 3 q) (hq : ∀ i : Nat, (i : Int) < Q 2 0 → 0 ≤ Q 1 i ∧ Q 1 i < (n : Int)) : ∀ k : Nat, (k : Int) ≤ Q 2 0 → LN N (plC S Q k) := by
  intro k
  induction k with
  | zero => intro _; exact LN.nil
  | succ k ih =>
    intro h
    have a := hq k (by omega)
    have b := sb.2 (Q 1 k).toNat (by omega)
    have c := hN (Q 1 k).toNat (by omega)
    exact (ih (by omega)).app (cpL_N b.2.2.1 (by omega) _ (by have := b.2.1.1; omega))
theorem plX_N {S Q g : jH} {n : Nat} {N : Nat} : ∀ i, i ≤ N → LN (N : Int) (plX S Q g n i) := by
  intro i
  induction i with
  | zero => intro _; exact LN.nil
  | succ i ih =>
    intro h
    rw [plX]
    split
    · exact (ih (by omega)).app (LN.one (by omega))
    · exact ih (by omega)
def bgC (V : List Int) : List Int := plC (rS V) (oQ V) (oQ V 2 0).toNat
def bgX (V : List Int) : List Int := plX (rS V) (oQ V) (rG V) (rNp V) (rNs V).toNat
def bgL (V : List Int) : List Int := bgC V ++ bgX V
theorem bg_b {R : Nat → Int} {V : List Int} (hV : LB V) (v3 : V.length ≤ 300) (z : rdF V true R = 0) : (bgL V).length = (rNs V).toNat ∧ LN (rNs V) (bgL V) ∧ SB9 (rS V) (rNp V) ∧ PTI (rN V) (rOs V) (rNs V) (hd5 (TB V) (rN V)).2 (rNp V) (rS V) ∧ (rNs V = bq (rS V) (rNp V)) ∧ ∀ q, q < rNp V → rS V 4 q + rS V 2 q + rS V 3 q ≤ rNs V ∧ 0 ≤ rS V 3 q := by
  obtain ⟨a, b, _, _, _⟩ := rd0 z
  have P1 := rd_P hV v3 a b
  have I0 := rd_I hV a
  have I := P1.1
  have eb := I.bq'
  have ns : rNs V = bq (rS V) (rNp V) := by rw [← eb.2.1]; exact P1.2.1.symm
  have part : ∀ q, q < rNp V → rS V 4 q + rS V 2 q + rS V 3 q ≤ rNs V ∧ 0 ≤ rS V 3 q := fun q hq => by
    have c := eb.1 q hq
    have d := bq_s (S := rS V) (i := q)
    have e := (eb.2.2.2 (q + 1) (by omega)).2.2.1
    have f := I.pos hq
    have g := P1.2.1
    omega
  have sb : SB9 (rS V) (rNp V) := by
    refine ⟨P1.2.2.1, fun q hq => ?_⟩
    have c := I.2.2.2.2.2.2 q hq
    have d := part q hq
    have e := I0.1
    have f := I0.2.2.1
    omega
  have w := orW_b (S := rS V) (n := rNp V)
  have oi := oQ_I (V := V)
  have L1 : ((bgC V).length : Int) = sm (dnS (rS V) (oQ V 0)) (rNp V) := plC_len sb (orW (rS V) (rNp V)).toNat (by omega)
  have L2 : ((bgX V).length : Int) = sm (kcS (rS V) (oQ V)) (rNp V) := by
    have := I.plL (Q := oQ V) (D := (r1 V).2.2) (X := (r2 V).2.2) (rNp V) (Nat.le_refl _)
    rw [← ns] at this
    exact this
  have st := sm_z (st := oQ V 0) (rNp V) (by have := oi.2.1; omega)
  have L3 := sm_3 (S := rS V) (Q := oQ V) (rNp V) (fun k hk => by have := (oi.1 k hk).1; have := st k hk; omega)
  refine ⟨?_, ?_, sb, I, ns, part⟩
  · unfold bgL
    rw [List.length_append]
    have := I0.2.2.1
    omega
  · have n0 := I0.2.2.1
    refine LN.app (plC_N sb part (fun i hi => ⟨(oi.2.2.2 i hi).1, (oi.2.2.2 i hi).2.1⟩) _ (by have := oi.2.2.1; omega)) ?_
    have := plX_N (S := rS V) (Q := oQ V) (g := rG V) (n := rNp V) (N := (rNs V).toNat) (rNs V).toNat (Nat.le_refl _)
    rw [show (((rNs V).toNat : Nat) : Int) = rNs V by omega] at this
    exact this
def bgR (c : Nat) (L : List Int) (g : jH) (R F : Nat → Int) : Nat → Int := fun i => if i = 1168 then (L.length : Int) else if i = 1169 then 0 else if 1170 ≤ i ∧ i < 1170 + 3 * L.length then (if (i - 1170) % 3 = 0 then L.getD ((i - 1170) / 3) 0 else if (i - 1170) % 3 = 1 then bgF c L g ((i - 1170) / 3) else bgA c L g R ((i - 1170) / 3)) else F i
theorem bgR_o {c : Nat} {L : List Int} {g : jH} {R F : Nat → Int} {i : Nat} (h : i < 1168 ∨ 1170 + 3 * L.length ≤ i) : bgR c L g R F i = F i := by
  unfold bgR
  rw [if_neg (by omega), if_neg (by omega), if_neg (by omega)]
theorem bgR_w {c : Nat} {L : List Int} {g : jH} {R F : Nat → Int} {w : Nat} (h : w < L.length) : bgR c L g R F (1170 + 3 * w) = L.getD w 0 ∧ bgR c L g R F (1171 + 3 * w) = bgF c L g w ∧ bgR c L g R F (1172 + 3 * w) = bgA c L g R w := by
  refine ⟨?_, ?_, ?_⟩ <;> unfold bgR
  · rw [if_neg (by omega), if_neg (by omega), if_pos (by omega), if_pos (by omega), show (1170 + 3 * w - 1170) / 3 = w by omega]
  · rw [if_neg (by omega), if_neg (by omega), if_pos (by omega), if_neg (by omega), if_pos (by omega), show (1171 + 3 * w - 1170) / 3 = w by omega]
  · rw [if_neg (by omega), if_neg (by omega), if_pos (by omega), if_neg (by omega), if_neg (by omega), show (1172 + 3 * w - 1170) / 3 = w by omega]
def grw (v : Int) (F : Nat → Int) : Nat → Int := fun i => if i = 5 then v else if 6 ≤ i ∧ (i : Int) < 6 + v ∧ F 5 ≤ (i : Int) - 6 then 0 else F i
def Rbg (V : List Int) (R : Nat → Int) : Nat → Int := grw (max (R 5) (rNs V)) (fun i => if i = 1167 then 1 else bgR (bgC V).length (bgL V) (rG V) R R i)
def Dbegin (s : jH) (k : Int) : Int × jH := if k < 0 ∨ 2 < k then dT s (-1) else if s 390 (200 + 301 * k).toNat = -1 then dT s (-2) else if rdF (slL (s 390) k) true (s 390) ≠ 0 then dT (lat s (rdF (slL (s 390) k) true (s 390))) (-3) else if s 390 1167 = 1 then dT (lat s 0) (-4) else dT (hw (Trem (lat s 0) 12) 390 (Rcl (Rbg (slL (s 390) k) (s 390)))) (rNs (slL (s 390) k))
theorem Ag.begin {s s' : jH} (h : Ag s s') (k : Int) : AgD (Dbegin s k) (Dbegin s' k) := by
  unfold Dbegin
  rw [h 390 (by decide)]
  split
  · exact h.d _
  · split
    · exact h.d _
    · split
      · exact (h.lat _).d _
      · split
        · exact (h.lat _).d _
        · exact (((h.lat _).rem 12).w1 rfl).d _
theorem Rbg_f {V : List Int} {R : Nat → Int} (n64 : 0 ≤ rNs V ∧ rNs V ≤ 64) (r5 : 0 ≤ R 5 ∧ R 5 ≤ 64) {i : Nat} (hi : i ≠ 1167) (h : i < 5 ∨ 70 ≤ i) : Rbg V R i = bgR (bgC V).length (bgL V) (rG V) R R i := by
  unfold Rbg grw
  rw [if_neg (by omega), if_neg (by omega)]
  exact if_neg hi
theorem Rbg_7 {V : List Int} {R : Nat → Int} (n64 : 0 ≤ rNs V ∧ rNs V ≤ 64) (r5 : 0 ≤ R 5 ∧ R 5 ≤ 64) : Rbg V R 1167 = 1 := by
  unfold Rbg grw
  rw [if_neg (by omega), if_neg (by omega)]
  exact if_pos rfl
theorem Rbg_5 {V : List Int} {R : Nat → Int} : Rbg V R 5 = max (R 5) (rNs V) := by unfold Rbg grw; rw [if_pos rfl]
theorem Rbg_b {V : List Int} {R : Nat → Int} {i : Nat} (hi : i < 64) : Rbg V R (6 + i) = if (i : Int) < max (R 5) (rNs V) ∧ R 5 ≤ (i : Int) then 0 else R (6 + i) := by
  unfold Rbg grw
  rw [if_neg (by omega)]
  have e : (if (5 : Nat) = 1167 then (1 : Int) else bgR (bgC V).length (bgL V) (rG V) R R 5) = R 5 := by rw [if_neg (by decide), bgR_o (by omega)]
  show (if 6 ≤ 6 + i ∧ ((6 + i : Nat) : Int) < 6 + max (R 5) (rNs V) ∧ (if (5 : Nat) = 1167 then (1 : Int) else bgR (bgC V).length (bgL V) (rG V) R R 5) ≤ ((6 + i : Nat) : Int) - 6 then (0 : Int) else (if 6 + i = 1167 then (1 : Int) else bgR (bgC V).length (bgL V) (rG V) R R (6 + i))) = _
  rw [e]
  by_cases c : (i : Int) < max (R 5) (rNs V) ∧ R 5 ≤ (i : Int)
  · rw [if_pos c, if_pos (by omega)]
  · rw [if_neg c, if_neg (by omega), if_neg (by omega), bgR_o (by omega)]
theorem RS_beg {h H : jH} {R : Nat → Int} {V : List Int} (hR : RS h 1 R) (r0 : R 1167 = 0) (n64 : 0 ≤ rNs V ∧ rNs V ≤ 64) (os : rOs V = R 5) (len : (bgL V).length = (rNs V).toNat) (ln : LN (rNs V) (bgL V)) (hs9 : OGs (rG V) R (rNs V).toNat) (hl : ∀ x, 4 ≤ x → x < 16 → H x = h x) (e8 : H 1 8 = rNs V) (e9 : H 1 9 = 0) (e2 : H 2 1 = max (R 5) (rNs V)) (e3 : ∀ i : Nat, (i : Int) < max (R 5) (rNs V) → H 3 i = if R 5 ≤ (i : Int) then 0 else h 3 i) (pk : ∀ w, w < (bgL V).length → H 16 w = (bgL V).getD w 0 ∧ H 17 w = bgF (bgC V).length (bgL V) (rG V) w ∧ H 18 w = bgV (bgC V).length (bgL V) (rG V) R w) : RS (if (0 : Int) < rNs V then H else hs H 2 1 (rNs V)) 1 (Rcl (Rbg V R)) := by
  have ok := hR.ok
  have hRR := hR
  obtain ⟨a, b, c, d1, d2, d3, d4, d5⟩ := hR
  have r5 : 0 ≤ R 5 ∧ R 5 ≤ 64 := ⟨ok.1, ok.2.1⟩
  have f8 : Rbg V R 1168 = rNs V := by rw [Rbg_f n64 r5 (by decide) (by omega), bgR, if_pos rfl, len]; omega
  have f9 : Rbg V R 1169 = 0 := by rw [Rbg_f n64 r5 (by decide) (by omega), bgR, if_neg (by decide), if_pos rfl]
  have fo : ∀ i, i ≠ 1167 → (i < 5 ∨ 70 ≤ i) → (i < 1168 ∨ 1362 ≤ i) → Rbg V R i = R i := fun i i1 i2 i3 => by rw [Rbg_f n64 r5 i1 i2, bgR_o (by omega)]
  have q0 := a 0 (by decide)
  have g3 : ∀ i : Nat, (i : Int) < max (R 5) (rNs V) → H 3 i = Rbg V R (6 + i) ∧ byt (Rbg V R (6 + i)) := fun i hi => by
    rw [e3 i hi, Rbg_b (by omega)]
    by_cases z : R 5 ≤ (i : Int)
    · rw [if_pos z, if_pos ⟨hi, z⟩]; exact ⟨rfl, by unfold byt; omega⟩
    · rw [if_neg z, if_neg (by omega)]
      have q := q0.2.2.2 i (by show (i : Int) < R 5; omega)
      have q1 : h 3 i = R (5 + 65 * 0 + 1 + i) := q.1
      rw [q1, show (5 + 65 * 0 + 1 + i : Nat) = 6 + i by omega]
      exact ⟨rfl, by have := q.2; rw [show (5 + 65 * 0 + 1 + i : Nat) = 6 + i by omega] at this; exact this⟩
  by_cases N0 : (0 : Int) < rNs V
  · rw [if_pos N0]
    have ec : Rcl (Rbg V R) = Rbg V R := by funext i; unfold Rcl; rw [if_neg (by omega)]
    rw [ec]
    refine ⟨fun f hf => ?_, fun k hk => ?_, fun i hi => ?_, ?_⟩
    · by_cases z : f = 0
      · subst z
        refine ⟨by show H 2 1 = Rbg V R 5; rw [e2, Rbg_5], by show 0 ≤ Rbg V R 5; rw [Rbg_5]; omega, by show Rbg V R 5 ≤ 64; rw [Rbg_5]; omega, fun i hi => ?_⟩
        have hi2 : (i : Int) < Rbg V R 5 := hi
        rw [Rbg_5] at hi2
        rw [show (5 + 65 * 0 + 1 + i : Nat) = 6 + i by omega]
        exact g3 i hi2
      · have q := a f hf
        unfold RSf at q ⊢
        rw [hl _ (by omega) (by omega), hl _ (by omega) (by omega), fo _ (by omega) (by omega) (by omega)]
        refine ⟨q.1, q.2.1, q.2.2.1, fun i hi => ?_⟩
        have := q.2.2.1
        rw [fo _ (by omega) (by omega) (by omega)]; exact q.2.2.2 i hi
    · have q := b k hk
      unfold RSs at q ⊢
      rw [hl _ (by omega) (by omega), hl _ (by omega) (by omega), fo _ (by omega) (by omega) (by omega)]
      refine ⟨q.1, q.2.1, fun i hi => ?_⟩
      have := q.2.1
      rw [fo _ (by omega) (by omega) (by omega)]; exact q.2.2 i hi
    · rw [hl _ (by omega) (by omega), fo _ (by omega) (by omega) (by omega)]; exact c i hi
    · refine ⟨by rw [Rbg_7 n64 r5]; omega, by rw [e8]; exact ⟨by omega, by omega⟩, by rw [e9]; exact ⟨by decide, by decide⟩, fun w => by rw [Rbg_7 n64 r5] at w; omega, fun _ => ⟨by rw [f9]; omega, by rw [f8, f9]; exact N0, by rw [f8]; exact n64.2, by rw [e8, f8], by rw [e9, f9], by rw [f8, Rbg_5]; omega, fun i hi => ?_⟩⟩
      rw [f8] at hi
      have il : i < (bgL V).length := by omega
      have p := pk i il
      have w := bgR_w (c := (bgC V).length) (L := bgL V) (g := rG V) (R := R) (F := R) il
      rw [Rbg_f n64 r5 (by omega) (by omega), Rbg_f n64 r5 (by omega) (by omega), Rbg_f n64 r5 (by omega) (by omega), w.1, w.2.1, w.2.2, Rbg_5]
      have x := ln _ (gd_mem il)
      have gs := hs9 ((bgL V).getD i 0).toNat (by omega)
      have kb := kpV_b ok hs9 (i := ((bgL V).getD i 0).toNat) (by omega)
      have gs1 := gs.2.1
      have gs2 := gs.2.2
      refine ⟨p.1, p.2.1, ?_, ?_, ?_, x.1, by omega, ?_, ?_⟩
      · rw [p.2.2, bgV, bgA]
        by_cases z : i < (bgC V).length
        · rw [if_pos z, if_pos z]; omega
        · rw [if_neg z, if_neg z]; exact kb.2.2
      · rw [p.2.2, bgV]; split <;> omega
      · rw [p.2.2, bgV]; split <;> omega
      · rw [bgF]; split <;> omega
      · rw [bgF]; split <;> omega
  · have Nz : rNs V = 0 := by omega
    rw [if_neg N0]
    have ec : ∀ i, Rcl (Rbg V R) i = if i = 1167 then 0 else if i = 5 then 0 else Rbg V R i := fun i => by unfold Rcl; rw [if_pos (by omega), f8, Nz]
    have ef : ∀ i, i ≠ 1167 → (i < 5 ∨ 70 ≤ i) → (i < 1168 ∨ 1362 ≤ i) → Rcl (Rbg V R) i = R i := fun i i1 i2 i3 => by rw [ec, if_neg i1, if_neg (by omega), fo i i1 i2 i3]
    refine ⟨fun f hf => ?_, fun k hk => ?_, fun i hi => ?_, ?_⟩
    · by_cases z : f = 0
      · subst z
        have e5 : Rcl (Rbg V R) 5 = 0 := by rw [ec, if_neg (by decide), if_pos rfl]
        refine ⟨by show hs H 2 1 (rNs V) 2 1 = Rcl (Rbg V R) 5; rw [hs_s, e5, Nz], by show 0 ≤ Rcl (Rbg V R) 5; omega, by show Rcl (Rbg V R) 5 ≤ 64; omega, fun i hi => ?_⟩
        have hi2 : (i : Int) < Rcl (Rbg V R) 5 := hi
        omega
      · have q := a f hf
        unfold RSf at q ⊢
        rw [hs_o (by omega), hs_O (by omega), hl _ (by omega) (by omega), hl _ (by omega) (by omega), ef _ (by omega) (by omega) (by omega)]
        refine ⟨q.1, q.2.1, q.2.2.1, fun i hi => ?_⟩
        have := q.2.2.1
        rw [ef _ (by omega) (by omega) (by omega)]; exact q.2.2.2 i hi
    · have q := b k hk
      unfold RSs at q ⊢
      rw [hs_o (by omega), hs_O (by omega), hl _ (by omega) (by omega), hl _ (by omega) (by omega), ef _ (by omega) (by omega) (by omega)]
      refine ⟨q.1, q.2.1, fun i hi => ?_⟩
      have := q.2.1
      rw [ef _ (by omega) (by omega) (by omega)]; exact q.2.2 i hi
    · rw [hs_o (by omega), hl _ (by omega) (by omega), ef _ (by omega) (by omega) (by omega)]; exact c i hi
    · have e7 : Rcl (Rbg V R) 1167 = 0 := by rw [ec, if_pos rfl]
      refine ⟨Or.inl e7, by rw [hs_o (by decide), e8]; exact ⟨by omega, by omega⟩, by rw [hs_o (by decide), e9]; exact ⟨by decide, by decide⟩, fun _ => by rw [hs_o (by decide), hs_o (by decide), e8, e9]; omega, fun w => by rw [e7] at w; omega⟩
theorem c_adM9 (l : Launch) {r a n : Nat} (hS : RowS r a n) (h : jH) (x many : Int) (c : Nat) (e1 : h r 1 = (c : Int)) (hm : jr many) (hcm : c + many.toNat ≤ n) : cV l 101 [.ref r, .int (jI x), .int (jI many)] h (fun h' => h' = rput h r a ((c + many.toNat : Nat) : Int) (fun i => if c ≤ i ∧ i < c + many.toNat then x else h a i)) := by
  have q := c_Row_addMany l hS h x many c (h a) hm hcm
  rw [show rput h r a (c : Int) (h a) = h from by rw [← e1]; exact rput_self] at q
  exact q
set_option maxRecDepth 20000 in
set_option maxHeartbeats 1000000 in
theorem k_startRun (l : Launch) (h : jH) (N : Int) (c : Nat) (e1 : h 2 1 = (c : Int)) (c64 : c ≤ 64) (n64 : 0 ≤ N ∧ N ≤ 64) : cV l 117 [.ref 1, .int (jI N)] h (fun h' => h' = if (0 : Int) < N then (rput (hs (hs h 1 8 N) 1 9 0) 2 3 ((c + (N - (c : Int)).toNat : Nat) : Int) (fun i => if c ≤ i ∧ i < c + (N - (c : Int)).toNat then 0 else h 3 i)) else hs (rput (hs (hs h 1 8 N) 1 9 0) 2 3 ((c + (N - (c : Int)).toNat : Nat) : Int) (fun i => if c ≤ i ∧ i < c + (N - (c : Int)).toNat then 0 else h 3 i)) 2 1 N) := by
  refine cV.of rfl rfl ?_
  refine tl_aload_n rfl rfl ?_
  refine tl_iload_n rfl rfl ?_
  refine tl_puti (c := 9) (k9 := 8) rfl rfl rfl rfl ?_
  refine tl_aload_n rfl rfl ?_
  refine tl_iconst rfl ?_
  refine tl_puti (c := 9) (k9 := 9) rfl rfl rfl rfl ?_
  show jT _ _ 10 _ _ _ _
  refine tl_aload_n rfl rfl ?_
  refine tl_getr (c := 9) (k9 := 0) (b := 2) rfl rfl rfl rfl ?_
  refine tl_iconst rfl ?_
  refine tl_iload_n rfl rfl ?_
  refine tl_aload_n rfl rfl ?_
  refine tl_getr (c := 9) (k9 := 0) (b := 2) rfl rfl rfl rfl ?_
  refine tl_geti (c := 8) (k9 := 1) rfl rfl rfl ?_
  rw [hs_o (by decide), hs_o (by decide), e1]
  show jT _ _ 23 _ _ _ _
  refine tl_isub rfl ?_
  refine tl_v2v (c9 := 8) (c_adM9 l (RSf_S 0 (by decide)) (hs (hs h 1 8 N) 1 9 0) 0 (N - (c : Int)) c (by rw [hs_o (by decide), hs_o (by decide)]; exact e1) ⟨by omega, by omega⟩ (by omega)) rfl rfl rfl rfl rfl (Nat.le_of_ble_eq_true rfl) (fun h1 p1 => ?_)
  have p1 : h1 = (rput (hs (hs h 1 8 N) 1 9 0) 2 3 ((c + (N - (c : Int)).toNat : Nat) : Int) (fun i => if c ≤ i ∧ i < c + (N - (c : Int)).toNat then 0 else h 3 i)) := p1
  have y8 : h1 1 8 = N := by rw [p1, rput_o (by decide) (by decide), hs_k (by decide), hs_s]
  have y9 : h1 1 9 = 0 := by rw [p1, rput_o (by decide) (by decide), hs_s]
  refine tl_aload_n rfl rfl ?_
  refine tl_v0v (c9 := 9) (c_endRun l h1 (by rw [y8]; exact ⟨by omega, by omega⟩) (by rw [y9]; exact ⟨by decide, by decide⟩)) rfl rfl rfl rfl rfl (Nat.le_of_ble_eq_true rfl) (fun h2 p2 => ?_)
  rw [y8, y9, p1] at p2
  refine tl_ret rfl ?_
  -- leaf 0 at 31
  exact ⟨rfl, p2⟩
set_option maxRecDepth 20000 in
set_option maxHeartbeats 4000000 in
theorem k_begin (l : Launch) (h s : jH) (t k : Int) (hI : IC h s t) (hk : jr k) : cI l 157 [.ref 0, .int (jI k)] h (PK h t (Dbegin s k)) := by
  have k1 := hk.1
  have k2 := hk.2
  refine cI.of rfl rfl ?_
  refine tl_aload_n rfl rfl ?_
  refine tl_iload_n rfl rfl ?_
  refine tl_v1i (c9 := 11) (k_readFA l _ s t k hI ⟨by omega, by omega⟩) rfl rfl rfl rfl rfl (Nat.le_of_ble_eq_true rfl) (fun z1 h1 p1 => ?_)
  obtain ⟨e1, i1, g1, f1, f0⟩ := p1
  have rc := rfA_c (s 390) k
  have rb := rfA_b (s 390) k
  subst e1
  refine tl_istore_n rfl (Nat.le_of_ble_eq_true rfl) rfl ?_
  refine tl_iload_n rfl rfl ?_
  refine tl_if_eq (tgt := 16) rfl rfl ⟨by omega, by omega⟩ (fun c1 => ?_) (fun c1 => ?_)
  · skip
    have z0 : rfA (s 390) k = 0 := by omega
    have zr : rdF (slL (s 390) k) true (s 390) = 0 := by omega
    have G1 := g1 z0
    rw [rfS_l (by omega) (by omega), zr] at i1
    have sb1 := hI.sok.b (k := k) (by omega) (by omega) (by omega)
    have A := rdA sb1.1 sb1.2.2.2 zr
    have An := A.2.2.1
    have Af := A.2.2.2.2.2.2 rfl
    have Av := A.2.2.2.2.1
    have ok := hI.ok
    have ok5 := ok.1
    have ok6 := ok.2.1
    have B9 := bg_b sb1.1 sb1.2.2.2 zr
    have l390 : lat s 0 390 = s 390 := lat_390
    have ru1 := i1.run01
    rw [l390] at ru1
    show jT _ _ 16 _ _ _ _
    refine tl_aload_n rfl rfl ?_
    refine tl_getr (c := 11) (k9 := 0) (b := 1) rfl rfl rfl rfl ?_
    refine tl_v0i (c9 := 9) (k_runs l _ _ i1.1) rfl rfl rfl rfl rfl (Nat.le_of_ble_eq_true rfl) (fun zu hu pu => ?_)
    obtain ⟨qu, pu⟩ := pu
    have qu := qu.symm
    subst qu
    rw [l390] at pu
    refine tl_if_eq (tgt := 33) rfl rfl ⟨by omega, by omega⟩ (fun c2 => ?_) (fun c2 => ?_)
    · skip
      refine tl_aload_n rfl rfl ?_
      refine tl_bipush rfl rfl ?_
      refine tl_v1v (c9 := 11) (k_keep l h1 (lat s 0) t 12 i1 (by decide) (by decide)) rfl rfl rfl rfl rfl (Nat.le_of_ble_eq_true rfl) (fun h2 p2 => ?_)
      obtain ⟨i2, f2⟩ := p2
      have P2 : RDP h2 (slL (s 390) k) := G1.1.o9 (fun x x1 x2 => f2 x (by omega))
      show jT _ _ 39 _ _ _ _
      refine tl_aload_n rfl rfl ?_
      refine tl_getr (c := 11) (k9 := 14) (b := 356) rfl rfl rfl rfl ?_
      refine tl_aload_n rfl rfl ?_
      refine tl_getr (c := 11) (k9 := 13) (b := 339) rfl rfl rfl rfl ?_
      refine tl_v1v (c9 := 1) (k_findOrder l h2 (rS (slL (s 390) k)) (rNp (slL (s 390) k)) B9.2.2.1 P2.1.2.2.2.2 P2.2.1) rfl rfl rfl rfl rfl (Nat.le_of_ble_eq_true rfl) (fun h3 p3 => ?_)
      obtain ⟨k3, f3⟩ := p3
      change ORK h3 (rS (slL (s 390) k)) (rNp (slL (s 390) k)) (oQ (slL (s 390) k)) at k3
      have P3 : RDP h3 (slL (s 390) k) := P2.o9 (fun x x1 x2 => f3.1 x (by omega))
      have hR3 : RS h3 1 (s 390) := by have q := i2.1; rw [Trem_o (by decide) (by decide) (by decide), l390] at q; exact q.of (fun x x1 x2 => f3.1 x (by omega))
      refine tl_aload_n rfl rfl ?_
      refine tl_getr (c := 11) (k9 := 14) (b := 356) rfl rfl rfl rfl ?_
      show jT _ _ 54 _ _ _ _
      refine tl_aload_n rfl rfl ?_
      refine tl_getr (c := 11) (k9 := 13) (b := 339) rfl rfl rfl rfl ?_
      refine tl_aload_n rfl rfl ?_
      refine tl_getr (c := 11) (k9 := 0) (b := 1) rfl rfl rfl rfl ?_
      refine tl_v2v (c9 := 1) (k_planRun l h3 (rS (slL (s 390) k)) (rNp (slL (s 390) k)) B9.2.2.1 (rG (slL (s 390) k)) (s 390) (rNs (slL (s 390) k)).toNat Av Af.2.2.1 hR3 P3.2.2.1 P3.1.2.2.2.2 P3.2.1 (oQ (slL (s 390) k)) k3 oQ_I (fun q hq => ⟨by have := (B9.2.2.2.2.2 q hq).1; omega, (B9.2.2.2.2.2 q hq).2⟩) (by omega) B9.2.2.2.1 rfl (by have q := B9.1; unfold bgL at q; rw [List.length_append] at q; change (bgC (slL (s 390) k)).length + (bgX (slL (s 390) k)).length ≤ 64; omega) (by rw [← B9.2.2.2.2.1]; omega)) rfl rfl rfl rfl rfl (Nat.le_of_ble_eq_true rfl) (fun h4 p4 => ?_)
      obtain ⟨k4, fr4⟩ := p4
      change PLK h4 (bgC (slL (s 390) k)).length (bgL (slL (s 390) k)) (rG (slL (s 390) k)) (s 390) at k4
      have o54 : h4 2 1 = (((s 390 5).toNat : Nat) : Int) := by rw [fr4.1 2 (by decide) (by decide) (by decide) (by decide), hR3.o5]; omega
      refine tl_aload_n rfl rfl ?_
      refine tl_getr (c := 11) (k9 := 0) (b := 1) rfl rfl rfl rfl ?_
      show jT _ _ 69 _ _ _ _
      refine tl_aload_n rfl rfl ?_
      refine tl_getr (c := 11) (k9 := 13) (b := 339) rfl rfl rfl rfl ?_
      refine tl_geti (c := 6) (k9 := 2) rfl rfl rfl ?_
      rw [fr4.1 339 (by decide) (by decide) (by decide) (by decide), f3.1 339 (by decide), f2 339 (by omega), G1.1.1.2.2.1]
      refine tl_v1v (c9 := 9) (k_startRun l h4 (rNs (slL (s 390) k)) (s 390 5).toNat o54 (by omega) An) rfl rfl rfl rfl rfl (Nat.le_of_ble_eq_true rfl) (fun h5 p5 => ?_)
      refine tl_aload_n rfl rfl ?_
      refine tl_aload_n rfl rfl ?_
      refine tl_getr (c := 11) (k9 := 0) (b := 1) rfl rfl rfl rfl ?_
      show jT _ _ 84 _ _ _ _
      refine tl_geti (c := 9) (k9 := 8) rfl rfl rfl ?_
      have hX8 : h5 1 8 = rNs (slL (s 390) k) := by rw [p5]; split; (rw [rput_o (by decide) (by decide), hs_k (by decide), hs_s]); (rw [hs_o (by decide), rput_o (by decide) (by decide), hs_k (by decide), hs_s])
      rw [hX8]
      refine tl_v1i (c9 := 11) (k_accept l _ _) rfl rfl rfl rfl rfl (Nat.le_of_ble_eq_true rfl) (fun za ha pa => ?_)
      obtain ⟨rfl, rfl⟩ := pa
      refine tl_iret rfl ?_
      -- leaf 0 at 90
      refine ⟨_, rfl, ?_⟩
      rw [Dbegin]
      repeat (first | rw [if_pos (by omega)] | rw [if_neg (by omega)])
      have hX : ∀ x, x ≠ 1 → x ≠ 2 → x ≠ 3 → h5 x = h4 x := fun x x1 x2 x3 => by
        rw [p5]
        split
        · rw [rput_o x2 x3, hs_O x1, hs_O x1]
        · rw [hs_O x2, rput_o x2 x3, hs_O x1, hs_O x1]
      have hRS : RS h5 1 (Rcl (Rbg (slL (s 390) k) (s 390))) := by
        rw [p5]
        refine RS_beg hR3 (by omega) An Af.1 B9.1 B9.2.1 Af.2.2.1 (fun x x1 x2 => ?_) ?_ ?_ ?_ (fun i hi => ?_) (fun w hw9 => ?_)
        · rw [rput_o (by omega) (by omega), hs_O (by omega), hs_O (by omega)]; exact fr4.1 x (by omega) (by omega) (by omega) (by omega)
        · rw [rput_o (by decide) (by decide), hs_k (by decide), hs_s]
        · rw [rput_o (by decide) (by decide), hs_s]
        · rw [rput_n (by decide)]; omega
        · rw [rput_a, fr4.1 3 (by decide) (by decide) (by decide) (by decide)]
          by_cases z : s 390 5 ≤ (i : Int)
          · rw [if_pos z, if_pos (by omega)]
          · rw [if_neg z, if_neg (by omega)]
        · rw [rput_o (by decide) (by decide), rput_o (by decide) (by decide), rput_o (by decide) (by decide), hs_o (by decide), hs_o (by decide), hs_o (by decide), hs_o (by decide), hs_o (by decide), hs_o (by decide)]; exact k4.2 w hw9
      have i3 : IC h3 (Trem (lat s 0) 12) t := KF.ic ⟨fun x hx => f3.1 x (by omega), f3.2 4 (by decide), f3.2 5 (by decide), by rw [f3.1 362 (by decide)], by rw [f3.1 362 (by decide)]⟩ i2
      have i4 : IC h5 (hw (Trem (lat s 0) 12) 390 (Rcl (Rbg (slL (s 390) k) (s 390)))) t := by
        have n9 := i3.n45
        have cl5 : ∀ i, i < 5 → Rcl (Rbg (slL (s 390) k) (s 390)) i = s 390 i := fun i hi => by
          have e := Rbg_f (V := (slL (s 390) k)) (R := s 390) An ⟨ok5, ok6⟩ (i := i) (by omega) (by omega)
          rw [bgR_o (by omega)] at e
          unfold Rcl
          split
          · rw [if_neg (by omega), if_neg (by omega)]; exact e
          · exact e
        have o8 : ∀ x, x ≠ 390 → hw (Trem (lat s 0) 12) 390 (Rcl (Rbg (slL (s 390) k) (s 390))) x = Trem (lat s 0) 12 x := fun x hx => hw_o hx
        obtain ⟨hRs, hU, hT, m1, m2, m3, m4, m5⟩ := i3
        refine ⟨by rw [hw_s]; exact hRS, ?_, ?_, ?_⟩
        · have hU2 := IC.undo_same (h' := h5) hU (by rw [hX 0 (by decide) (by decide) (by decide), fr4.1 0 (by decide) (by decide) (by decide) (by decide)]) (by rw [hX 0 (by decide) (by decide) (by decide), fr4.1 0 (by decide) (by decide) (by decide) (by decide)]) (by rw [hX 308 (by decide) (by decide) (by decide), fr4.1 308 (by decide) (by decide) (by decide) (by decide)]) (fun x h1 h2 => by rw [hX x (by omega) (by omega) (by omega), fr4.1 x (by omega) (by omega) (by omega) (by omega)])
          rw [RU, o8 388 (by decide), o8 391 (by decide), o8 392 (by decide)]
          exact hU2
        · exact hT.keep (by rw [hX 309 (by decide) (by decide) (by decide), fr4.1 309 (by decide) (by decide) (by decide) (by decide)]) (by rw [hX 310 (by decide) (by decide) (by decide), fr4.1 310 (by decide) (by decide) (by decide) (by decide)]) (by rw [o8 388 (by decide)]) (o8 393 (by decide))
        · rw [RN, o8 388 (by decide), o8 389 (by decide), hX 0 (by decide) (by decide) (by decide), hX 311 (by decide) (by decide) (by decide), hX 312 (by decide) (by decide) (by decide), hX 356 (by decide) (by decide) (by decide), hX 362 (by decide) (by decide) (by decide), fr4.1 0 (by decide) (by decide) (by decide) (by decide), fr4.1 311 (by decide) (by decide) (by decide) (by decide), fr4.1 312 (by decide) (by decide) (by decide) (by decide), fr4.1 362 (by decide) (by decide) (by decide) (by decide), fr4.2 4 (by decide), fr4.2 5 (by decide)]
          refine ⟨fun q hq => ?_, m2, m3, m4, m5⟩
          rw [hw_s, cl5 q hq]
          have := m1 q hq
          rw [Trem_o (by decide) (by decide) (by decide), lat_390] at this
          exact this
      exact PK.acc i4 (by omega) (fun x hx => by rw [hX x (by omega) (by omega) (by omega), fr4.1 x (by omega) (by omega) (by omega) (by omega), f3.1 x (by omega), f2 x (by omega), f1 x (by omega) (by omega)])
    · show jT _ _ 26 _ _ _ _
      refine tl_aload_n rfl rfl ?_
      refine tl_bipush rfl rfl ?_
      refine tl_v1i (c9 := 11) (k_refuse l _ _ (by omega) (by omega)) rfl rfl rfl rfl rfl (Nat.le_of_ble_eq_true rfl) (fun zr hr pr => ?_)
      obtain ⟨rfl, rfl⟩ := pr
      refine tl_iret rfl ?_
      -- leaf 1 at 32
      refine ⟨_, rfl, ?_⟩
      rw [Dbegin, if_neg (by omega), if_neg (by omega), if_neg (by omega), if_pos (by omega)]
      exact (PK.ref i1 (by omega) (by omega)).from9 (fun x hx => f1 x (by omega) (by omega))
  · show jT _ _ 10 _ _ _ _
    show jT _ _ 10 _ _ _ _
    refine tl_aload_n rfl rfl ?_
    refine tl_iload_n rfl rfl ?_
    refine tl_v1i (c9 := 11) (k_refuse l _ _ (by omega) (by omega)) rfl rfl rfl rfl rfl (Nat.le_of_ble_eq_true rfl) (fun zr hr pr => ?_)
    obtain ⟨rfl, rfl⟩ := pr
    refine tl_iret rfl ?_
    -- leaf 2 at 15
    refine ⟨_, rfl, ?_⟩
    rcases rc with rc | ⟨rk, rc | ⟨rd, rc | rc⟩⟩
    · rw [Dbegin, if_pos (by omega)]
      rw [rfS_n (Or.inl (by omega))] at i1
      rw [rc.1]
      exact (PK.ref i1 (by omega) (by omega)).from9 (fun x hx => f1 x (by omega) (by omega))
    · rw [Dbegin, if_neg (by omega), if_pos (by omega)]
      rw [rfS_n (Or.inr (by omega))] at i1
      rw [rc.1]
      exact (PK.ref i1 (by omega) (by omega)).from9 (fun x hx => f1 x (by omega) (by omega))
    · rw [Dbegin, if_neg (by omega), if_neg (by omega), if_pos rc.2]
      rw [rfS_l rk rd] at i1
      rw [rc.1]
      exact (PK.ref i1 (by omega) (by omega)).from9 (fun x hx => f1 x (by omega) (by omega))
    · exfalso; omega
