/-! listed, listing: of the reference -/
def SR (h : jH) (T : List Int) : Prop := h 388 76 = (T.length : Int) ∧ ∀ i, i < T.length → h 428 i = T.getD i 0
def FG (h h' : jH) : Prop := (∀ y, y ≠ 388 → y ≠ 428 → h' y = h y) ∧ ∀ q, q ≠ 76 → h' 388 q = h 388 q
theorem FG.rfl9 {h : jH} : FG h h := ⟨fun _ _ _ => rfl, fun _ _ => rfl⟩
theorem FG.trans {a b c : jH} (h1 : FG a b) (h2 : FG b c) : FG a c := ⟨fun y a1 a2 => (h2.1 y a1 a2).trans (h1.1 y a1 a2), fun q a1 => (h2.2 q a1).trans (h1.2 q a1)⟩
theorem OGR.g9 {h h' G : jH} {n : Nat} (k : OGR h G n) (f : FG h h') : OGR h' G n := ⟨by rw [f.2 25 (by decide)]; exact k.1, fun i hi => by rw [f.1 403 (by decide) (by decide), f.1 404 (by decide) (by decide)]; exact k.2 i hi⟩
theorem PTR.g9 {h h' S : jH} {n : Nat} (k : PTR h S n) (f : FG h h') : PTR h' S n := fun q hq => by rw [f.1 408 (by decide) (by decide), f.1 409 (by decide) (by decide), f.1 410 (by decide) (by decide), f.1 411 (by decide) (by decide)]; exact k q hq
set_option maxRecDepth 20000 in
set_option maxHeartbeats 1000000 in
theorem r_sign (l : Launch) (h : jH) (T : List Int) (kT : SR h T) (bd : T.length < 1600) (x : Int) : cV l 335 [.ref 388, .int (jI x)] h (fun h' => SR h' (T ++ [x]) ∧ FG h h') := by
  refine cV.of rfl rfl ?_
  refine tl_aload_n rfl rfl ?_
  refine tl_getr (c := 12) (k9 := 75) (b := 428) rfl rfl rfl rfl ?_
  refine tl_aload_n rfl rfl ?_
  refine tl_geti (c := 12) (k9 := 76) rfl rfl rfl ?_
  rw [kT.1]
  refine tl_iload_n rfl rfl ?_
  refine tl_iast (n := 1600) rfl rfl rfl (by omega) (by omega) ?_
  rw [Int.toNat_natCast]
  show jT _ _ 10 _ _ _ _
  refine tl_aload_n rfl rfl ?_
  refine tl_dup rfl rfl ?_
  refine tl_geti (c := 12) (k9 := 76) rfl rfl rfl ?_
  rw [hs_o (by decide), kT.1]
  refine tl_iconst rfl ?_
  refine tl_iadd rfl ?_
  refine tl_puti (c := 12) (k9 := 76) rfl rfl rfl rfl ?_
  refine tl_ret rfl ?_
  -- leaf 0 at 20
  refine ⟨rfl, ⟨?_, fun i hi => ?_⟩, fun y y1 y2 => by rw [hs_O y1, hs_O y2], fun q hq => by rw [hs_k hq, hs_o (by decide)]⟩
  · rw [hs_s, List.length_append]; show (T.length : Int) + 1 = ((T.length + 1 : Nat) : Int); omega
  · rw [List.length_append] at hi
    have hi2 : i < T.length + 1 := hi
    rw [hs_O (by decide)]
    by_cases c : i = T.length
    · subst c; rw [hs_s, gd_s]
    · rw [hs_k c, gd_l (by omega)]; exact kT.2 i (by omega)
set_option maxRecDepth 20000 in
set_option maxHeartbeats 1000000 in
theorem r_digits (l : Launch) (h : jH) (v : Int) (v0 : 0 ≤ v) (v1 : v ≤ 999) (T : List Int) (kT : SR h T) (bd : T.length + (dg v).length ≤ 1600) : cV l 336 [.ref 388, .int (jI v)] h (fun h' => SR h' (T ++ dg v) ∧ FG h h') := by
  have d3 : 100 ≤ v → (dg v).length = 3 := fun c => by rw [dg_3 c]; rfl
  have d2 : ¬ 100 ≤ v → 10 ≤ v → (dg v).length = 2 := fun c c2 => by rw [dg_2 c c2]; rfl
  have d1 := (dg_len v).1
  have e100 : v / 100 % 10 = v / 100 := by omega
  refine cV.of rfl rfl ?_
  refine tl_iload_n rfl rfl ?_
  refine tl_bipush rfl rfl ?_
  refine tl_icmp_le (tgt := 17) rfl rfl ⟨by omega, by omega⟩ ⟨by omega, by omega⟩ (fun c1 => ?_) (fun c1 => ?_)
  · skip
    refine tl_iload_n rfl rfl ?_
    refine tl_bipush rfl rfl ?_
    refine tl_icmp_le (tgt := 37) rfl rfl ⟨by omega, by omega⟩ ⟨by omega, by omega⟩ (fun c2 => ?_) (fun c2 => ?_)
    · skip
      show jT _ _ 37 _ _ _ _
      refine tl_aload_n rfl rfl ?_
      refine tl_bipush rfl rfl ?_
      refine tl_iload_n rfl rfl ?_
      refine tl_bipush rfl rfl ?_
      refine tl_irem rfl (by omega) (by omega) (by omega) (by omega) ?_
      refine tl_iadd rfl ?_
      refine tl_v1v (c9 := 12) (r_sign l _ _ (by first | exact k2 | exact k1 | exact kT) (by (try simp only [List.length_append, List.length_cons, List.length_nil]); omega) _) rfl rfl rfl rfl rfl (Nat.le_of_ble_eq_true rfl) (fun h3 p3 => ?_)
      obtain ⟨k3, f3⟩ := p3
      show jT _ _ 48 _ _ _ _
      refine tl_ret rfl ?_
      -- leaf 0 at 48
      first
        | (exfalso; omega)
        | (refine ⟨rfl, ?_, ((f1).trans f2).trans f3⟩
           rw [dg_3 (by omega)]
           have e9 := k3
           (try simp only [List.append_assoc, List.cons_append, List.nil_append] at e9)
           (try rw [e100])
           exact e9)
        | (refine ⟨rfl, ?_, (f2).trans f3⟩
           rw [dg_2 (by omega) (by omega)]
           have e9 := k3
           (try simp only [List.append_assoc, List.cons_append, List.nil_append] at e9)
           (try rw [e100])
           exact e9)
        | (refine ⟨rfl, ?_, f3⟩
           rw [dg_1 (by omega)]
           have e9 := k3
           (try simp only [List.append_assoc, List.cons_append, List.nil_append] at e9)
           (try rw [e100])
           exact e9)
    · show jT _ _ 23 _ _ _ _
      refine tl_aload_n rfl rfl ?_
      refine tl_bipush rfl rfl ?_
      refine tl_iload_n rfl rfl ?_
      refine tl_bipush rfl rfl ?_
      refine tl_idiv rfl (by omega) (by omega) (by omega) (by omega) ?_
      refine tl_bipush rfl rfl ?_
      show jT _ _ 32 _ _ _ _
      refine tl_irem rfl (by omega) (by omega) (by omega) (by omega) ?_
      refine tl_iadd rfl ?_
      refine tl_v1v (c9 := 12) (r_sign l _ _ (by first | exact k1 | exact kT) (by (try simp only [List.length_append, List.length_cons, List.length_nil]); omega) _) rfl rfl rfl rfl rfl (Nat.le_of_ble_eq_true rfl) (fun h2 p2 => ?_)
      obtain ⟨k2, f2⟩ := p2
      refine tl_aload_n rfl rfl ?_
      refine tl_bipush rfl rfl ?_
      refine tl_iload_n rfl rfl ?_
      refine tl_bipush rfl rfl ?_
      show jT _ _ 43 _ _ _ _
      refine tl_irem rfl (by omega) (by omega) (by omega) (by omega) ?_
      refine tl_iadd rfl ?_
      refine tl_v1v (c9 := 12) (r_sign l _ _ (by first | exact k2 | exact k1 | exact kT) (by (try simp only [List.length_append, List.length_cons, List.length_nil]); omega) _) rfl rfl rfl rfl rfl (Nat.le_of_ble_eq_true rfl) (fun h3 p3 => ?_)
      obtain ⟨k3, f3⟩ := p3
      refine tl_ret rfl ?_
      -- leaf 1 at 48
      first
        | (exfalso; omega)
        | (refine ⟨rfl, ?_, ((f1).trans f2).trans f3⟩
           rw [dg_3 (by omega)]
           have e9 := k3
           (try simp only [List.append_assoc, List.cons_append, List.nil_append] at e9)
           (try rw [e100])
           exact e9)
        | (refine ⟨rfl, ?_, (f2).trans f3⟩
           rw [dg_2 (by omega) (by omega)]
           have e9 := k3
           (try simp only [List.append_assoc, List.cons_append, List.nil_append] at e9)
           (try rw [e100])
           exact e9)
        | (refine ⟨rfl, ?_, f3⟩
           rw [dg_1 (by omega)]
           have e9 := k3
           (try simp only [List.append_assoc, List.cons_append, List.nil_append] at e9)
           (try rw [e100])
           exact e9)
  · show jT _ _ 6 _ _ _ _
    refine tl_aload_n rfl rfl ?_
    refine tl_bipush rfl rfl ?_
    refine tl_iload_n rfl rfl ?_
    show jT _ _ 10 _ _ _ _
    refine tl_bipush rfl rfl ?_
    refine tl_idiv rfl (by omega) (by omega) (by omega) (by omega) ?_
    refine tl_iadd rfl ?_
    refine tl_v1v (c9 := 12) (r_sign l _ _ (by first | exact kT) (by (try simp only [List.length_append, List.length_cons, List.length_nil]); omega) _) rfl rfl rfl rfl rfl (Nat.le_of_ble_eq_true rfl) (fun h1 p1 => ?_)
    obtain ⟨k1, f1⟩ := p1
    refine tl_iload_n rfl rfl ?_
    refine tl_bipush rfl rfl ?_
    refine tl_icmp_le (tgt := 37) rfl rfl ⟨by omega, by omega⟩ ⟨by omega, by omega⟩ (fun c3 => ?_) (fun c3 => ?_)
    · skip
      show jT _ _ 37 _ _ _ _
      refine tl_aload_n rfl rfl ?_
      refine tl_bipush rfl rfl ?_
      refine tl_iload_n rfl rfl ?_
      refine tl_bipush rfl rfl ?_
      refine tl_irem rfl (by omega) (by omega) (by omega) (by omega) ?_
      refine tl_iadd rfl ?_
      refine tl_v1v (c9 := 12) (r_sign l _ _ (by first | exact k2 | exact k1 | exact kT) (by (try simp only [List.length_append, List.length_cons, List.length_nil]); omega) _) rfl rfl rfl rfl rfl (Nat.le_of_ble_eq_true rfl) (fun h3 p3 => ?_)
      obtain ⟨k3, f3⟩ := p3
      show jT _ _ 48 _ _ _ _
      refine tl_ret rfl ?_
      -- leaf 2 at 48
      first
        | (exfalso; omega)
        | (refine ⟨rfl, ?_, ((f1).trans f2).trans f3⟩
           rw [dg_3 (by omega)]
           have e9 := k3
           (try simp only [List.append_assoc, List.cons_append, List.nil_append] at e9)
           (try rw [e100])
           exact e9)
        | (refine ⟨rfl, ?_, (f2).trans f3⟩
           rw [dg_2 (by omega) (by omega)]
           have e9 := k3
           (try simp only [List.append_assoc, List.cons_append, List.nil_append] at e9)
           (try rw [e100])
           exact e9)
        | (refine ⟨rfl, ?_, f3⟩
           rw [dg_1 (by omega)]
           have e9 := k3
           (try simp only [List.append_assoc, List.cons_append, List.nil_append] at e9)
           (try rw [e100])
           exact e9)
    · show jT _ _ 23 _ _ _ _
      refine tl_aload_n rfl rfl ?_
      refine tl_bipush rfl rfl ?_
      refine tl_iload_n rfl rfl ?_
      refine tl_bipush rfl rfl ?_
      refine tl_idiv rfl (by omega) (by omega) (by omega) (by omega) ?_
      refine tl_bipush rfl rfl ?_
      show jT _ _ 32 _ _ _ _
      refine tl_irem rfl (by omega) (by omega) (by omega) (by omega) ?_
      refine tl_iadd rfl ?_
      refine tl_v1v (c9 := 12) (r_sign l _ _ (by first | exact k1 | exact kT) (by (try simp only [List.length_append, List.length_cons, List.length_nil]); omega) _) rfl rfl rfl rfl rfl (Nat.le_of_ble_eq_true rfl) (fun h2 p2 => ?_)
      obtain ⟨k2, f2⟩ := p2
      refine tl_aload_n rfl rfl ?_
      refine tl_bipush rfl rfl ?_
      refine tl_iload_n rfl rfl ?_
      refine tl_bipush rfl rfl ?_
      show jT _ _ 43 _ _ _ _
      refine tl_irem rfl (by omega) (by omega) (by omega) (by omega) ?_
      refine tl_iadd rfl ?_
      refine tl_v1v (c9 := 12) (r_sign l _ _ (by first | exact k2 | exact k1 | exact kT) (by (try simp only [List.length_append, List.length_cons, List.length_nil]); omega) _) rfl rfl rfl rfl rfl (Nat.le_of_ble_eq_true rfl) (fun h3 p3 => ?_)
      obtain ⟨k3, f3⟩ := p3
      refine tl_ret rfl ?_
      -- leaf 3 at 48
      first
        | (exfalso; omega)
        | (refine ⟨rfl, ?_, ((f1).trans f2).trans f3⟩
           rw [dg_3 (by omega)]
           have e9 := k3
           (try simp only [List.append_assoc, List.cons_append, List.nil_append] at e9)
           (try rw [e100])
           exact e9)
        | (refine ⟨rfl, ?_, (f2).trans f3⟩
           rw [dg_2 (by omega) (by omega)]
           have e9 := k3
           (try simp only [List.append_assoc, List.cons_append, List.nil_append] at e9)
           (try rw [e100])
           exact e9)
        | (refine ⟨rfl, ?_, f3⟩
           rw [dg_1 (by omega)]
           have e9 := k3
           (try simp only [List.append_assoc, List.cons_append, List.nil_append] at e9)
           (try rw [e100])
           exact e9)
set_option maxRecDepth 20000 in
set_option maxHeartbeats 1000000 in
theorem r_between (l : Launch) (h : jH) (T : List Int) (kT : SR h T) (bd : T.length < 1600) : cV l 337 [.ref 388] h (fun h' => SR h' (sp9 T) ∧ FG h h') := by
  refine cV.of rfl rfl ?_
  refine tl_aload_n rfl rfl ?_
  refine tl_geti (c := 12) (k9 := 76) rfl rfl rfl ?_
  rw [kT.1]
  refine tl_if_le (tgt := 13) rfl rfl ⟨by omega, by omega⟩ (fun c1 => ?_) (fun c1 => ?_)
  · skip
    refine tl_ret rfl ?_
    -- leaf 0 at 13
    first
      | (rw [sp9_1 (by omega)]; exact ⟨rfl, k1, f1⟩)
      | (rw [sp9_0 (by omega)]; exact ⟨rfl, kT, FG.rfl9⟩)
  · show jT _ _ 7 _ _ _ _
    refine tl_aload_n rfl rfl ?_
    refine tl_bipush rfl rfl ?_
    show jT _ _ 10 _ _ _ _
    refine tl_v1v (c9 := 12) (r_sign l h T kT bd 59) rfl rfl rfl rfl rfl (Nat.le_of_ble_eq_true rfl) (fun h1 p1 => ?_)
    obtain ⟨k1, f1⟩ := p1
    refine tl_ret rfl ?_
    -- leaf 1 at 13
    first
      | (rw [sp9_1 (by omega)]; exact ⟨rfl, k1, f1⟩)
      | (rw [sp9_0 (by omega)]; exact ⟨rfl, kT, FG.rfl9⟩)
set_option maxRecDepth 20000 in
set_option maxHeartbeats 1000000 in
theorem r_lcp_lp (l : Launch) (h : jH) (G : jH) (n : Nat) (hg : OGR h G n) (hv : OGv G n) (u : Nat) (un : u ≤ n) (f0 : Nat) (hp : ∀ q, f0 ≤ q → q < u → 0 ≤ G 0 q) (X : List Int) (fr9 : Int) (P : Option Value → jH → Prop) (hP : ∀ mem, (SR mem X ∧ FG h mem) → P none mem) : ∀ (m : Nat) (f : Nat) (s : Nat) (T : List Int) (mem : jH), u + 1 - s < m → (f < s ∧ s ≤ u ∧ f0 ≤ f ∧ SR mem T ∧ T.length + 20 * u ≤ 1280 + 20 * f ∧ clT G u (u + 1 - s) f s T = X ∧ FG h mem) → jT l 338 10 [some (.ref 388), some (.int (jI (fr9))), some (.int (jI ((u : Int)))), some (.int (jI ((f : Int)))), some (.int (jI ((s : Int) - (f : Int))))] [] mem P := by
  intro m
  induction m with
  | zero => intro f s T mem hk; omega
  | succ m ih =>
    intro f s T mem hk hi
    obtain ⟨i0, i1, i2, k0, bd, eX, fr⟩ := hi
    have g0 : OGR mem G n := hg.g9 fr
    have n64 := hv.1
    have vs : u ≤ s ∨ (s < u ∧ byt (G 1 s)) := by
      by_cases c : s < u
      · exact Or.inr ⟨c, (hv.2 s (by omega)).2⟩
      · exact Or.inl (by omega)
    have vf : ((0 ≤ G 0 f ∧ G 0 f ≤ 63) ∧ byt (G 1 f)) := ⟨⟨hp f i2 (by omega), (hv.2 f (by omega)).1.2⟩, (hv.2 f (by omega)).2⟩
    unfold byt at vs vf
    have s9 := sp9_len T
    have dn := dg_len ((s : Int) - (f : Int))
    have dn4 := dn.2.2.2
    have dp := dg_len (G 0 f)
    have dp3 := dp.2.2.1
    have dv := dg_len (G 1 f)
    refine tl_iload_n rfl rfl ?_
    refine tl_iload rfl rfl ?_
    refine tl_iadd rfl ?_
    refine tl_iload_n rfl rfl ?_
    refine tl_icmp_ge (tgt := 42) rfl rfl ⟨by omega, by omega⟩ ⟨by omega, by omega⟩ (fun c1 => ?_) (fun c1 => ?_)
    · skip
      refine tl_aload_n rfl rfl ?_
      show jT _ _ 43 _ _ _ _
      refine tl_v0v (c9 := 12) (r_between l mem T k0 (by omega)) rfl rfl rfl rfl rfl (Nat.le_of_ble_eq_true rfl) (fun h1 p1 => ?_)
      obtain ⟨k1, f1⟩ := p1
      have g1 := g0.g9 f1
      refine tl_aload_n rfl rfl ?_
      refine tl_bipush rfl rfl ?_
      refine tl_v1v (c9 := 12) (r_sign l h1 _ k1 (by (try simp only [List.length_append, List.length_cons, List.length_nil]); omega) 116) rfl rfl rfl rfl rfl (Nat.le_of_ble_eq_true rfl) (fun h2 p2 => ?_)
      obtain ⟨k2, f2⟩ := p2
      have g2 := g1.g9 f2
      refine tl_aload_n rfl rfl ?_
      refine tl_bipush rfl rfl ?_
      refine tl_v1v (c9 := 12) (r_sign l h2 _ k2 (by (try simp only [List.length_append, List.length_cons, List.length_nil]); omega) 97) rfl rfl rfl rfl rfl (Nat.le_of_ble_eq_true rfl) (fun h3 p3 => ?_)
      obtain ⟨k3, f3⟩ := p3
      have g3 := g2.g9 f3
      show jT _ _ 58 _ _ _ _
      refine tl_aload_n rfl rfl ?_
      refine tl_bipush rfl rfl ?_
      refine tl_v1v (c9 := 12) (r_sign l h3 _ k3 (by (try simp only [List.length_append, List.length_cons, List.length_nil]); omega) 107) rfl rfl rfl rfl rfl (Nat.le_of_ble_eq_true rfl) (fun h4 p4 => ?_)
      obtain ⟨k4, f4⟩ := p4
      have g4 := g3.g9 f4
      refine tl_aload_n rfl rfl ?_
      refine tl_bipush rfl rfl ?_
      refine tl_v1v (c9 := 12) (r_sign l h4 _ k4 (by (try simp only [List.length_append, List.length_cons, List.length_nil]); omega) 101) rfl rfl rfl rfl rfl (Nat.le_of_ble_eq_true rfl) (fun h5 p5 => ?_)
      obtain ⟨k5, f5⟩ := p5
      have g5 := g4.g9 f5
      refine tl_aload_n rfl rfl ?_
      show jT _ _ 71 _ _ _ _
      refine tl_bipush rfl rfl ?_
      refine tl_v1v (c9 := 12) (r_sign l h5 _ k5 (by (try simp only [List.length_append, List.length_cons, List.length_nil]); omega) 32) rfl rfl rfl rfl rfl (Nat.le_of_ble_eq_true rfl) (fun h6 p6 => ?_)
      obtain ⟨k6, f6⟩ := p6
      have g6 := g5.g9 f6
      refine tl_aload_n rfl rfl ?_
      refine tl_iload rfl rfl ?_
      refine tl_v1v (c9 := 12) (r_digits l h6 ((s : Int) - (f : Int)) (by omega) (by omega) _ k6 (by (try simp only [List.length_append, List.length_cons, List.length_nil]); omega)) rfl rfl rfl rfl rfl (Nat.le_of_ble_eq_true rfl) (fun h7 p7 => ?_)
      obtain ⟨k7, f7⟩ := p7
      have g7 := g6.g9 f7
      refine tl_aload_n rfl rfl ?_
      refine tl_bipush rfl rfl ?_
      show jT _ _ 85 _ _ _ _
      refine tl_v1v (c9 := 12) (r_sign l h7 _ k7 (by (try simp only [List.length_append, List.length_cons, List.length_nil]); omega) 32) rfl rfl rfl rfl rfl (Nat.le_of_ble_eq_true rfl) (fun h8 p8 => ?_)
      obtain ⟨k8, f8⟩ := p8
      have g8 := g7.g9 f8
      refine tl_aload_n rfl rfl ?_
      refine tl_bipush rfl rfl ?_
      refine tl_v1v (c9 := 12) (r_sign l h8 _ k8 (by (try simp only [List.length_append, List.length_cons, List.length_nil]); omega) 97) rfl rfl rfl rfl rfl (Nat.le_of_ble_eq_true rfl) (fun h9 p9 => ?_)
      obtain ⟨k9, f9⟩ := p9
      have g9 := g8.g9 f9
      refine tl_aload_n rfl rfl ?_
      refine tl_bipush rfl rfl ?_
      refine tl_v1v (c9 := 12) (r_sign l h9 _ k9 (by (try simp only [List.length_append, List.length_cons, List.length_nil]); omega) 116) rfl rfl rfl rfl rfl (Nat.le_of_ble_eq_true rfl) (fun h10 p10 => ?_)
      obtain ⟨k10, f10⟩ := p10
      have g10 := g9.g9 f10
      show jT _ _ 100 _ _ _ _
      refine tl_aload_n rfl rfl ?_
      refine tl_bipush rfl rfl ?_
      refine tl_v1v (c9 := 12) (r_sign l h10 _ k10 (by (try simp only [List.length_append, List.length_cons, List.length_nil]); omega) 32) rfl rfl rfl rfl rfl (Nat.le_of_ble_eq_true rfl) (fun h11 p11 => ?_)
      obtain ⟨k11, f11⟩ := p11
      have g11 := g10.g9 f11
      refine tl_aload_n rfl rfl ?_
      refine tl_aload_n rfl rfl ?_
      refine tl_getr (c := 12) (k9 := 23) (b := 403) rfl rfl rfl rfl ?_
      refine tl_iload_n rfl rfl ?_
      show jT _ _ 112 _ _ _ _
      refine tl_iald (n := 64) rfl rfl rfl (by omega) (by omega) ?_
      rw [Int.toNat_natCast, (g11.2 f (by omega)).1]
      refine tl_v1v (c9 := 12) (r_digits l h11 (G 0 f) (by omega) (by omega) _ k11 (by (try simp only [List.length_append, List.length_cons, List.length_nil]); omega)) rfl rfl rfl rfl rfl (Nat.le_of_ble_eq_true rfl) (fun h12 p12 => ?_)
      obtain ⟨k12, f12⟩ := p12
      have g12 := g11.g9 f12
      refine tl_aload_n rfl rfl ?_
      refine tl_getr (c := 12) (k9 := 24) (b := 404) rfl rfl rfl rfl ?_
      refine tl_iload_n rfl rfl ?_
      refine tl_iald (n := 64) rfl rfl rfl (by omega) (by omega) ?_
      rw [Int.toNat_natCast, (g12.2 f (by omega)).2]
      refine tl_if_eq (tgt := 159) rfl rfl ⟨by omega, by omega⟩ (fun c2 => ?_) (fun c2 => ?_)
      · skip
        show jT _ _ 159 _ _ _ _
        refine tl_iload_n rfl rfl ?_
        refine tl_iload rfl rfl ?_
        refine tl_iadd rfl ?_
        refine tl_istore_n rfl (Nat.le_of_ble_eq_true rfl) rfl ?_
        refine tl_goto (tgt := 2) rfl rfl ?_
        refine tl_iload_n rfl rfl ?_
        refine tl_iload_n rfl rfl ?_
        show jT _ _ 4 _ _ _ _
        refine tl_icmp_ge (tgt := 167) rfl rfl ⟨by omega, by omega⟩ ⟨by omega, by omega⟩ (fun c3 => ?_) (fun c3 => ?_)
        · skip
          refine tl_ret rfl ?_
          -- leaf 0 at 167
          first
            | (rw [clT_a (by omega) (by omega)] at eX
               have tl := tkS_len T (n := (s : Int) - (f : Int)) (p := G 0 f) (v := G 1 f) (by omega) (by omega) (by omega)
               have e5 : tk5 T ((s : Int) - (f : Int)) (G 0 f) = (((((((((((sp9 T ++ [116]) ++ [97]) ++ [107]) ++ [101]) ++ [32]) ++ dg ((s : Int) - (f : Int))) ++ [32]) ++ [97]) ++ [116]) ++ [32]) ++ dg (G 0 f)) := by unfold tk5; rw [show sI 9 = [116, 97, 107, 101, 32] from rfl, show sI 10 = [32, 97, 116, 32] from rfl]; simp only [List.append_assoc, List.cons_append, List.nil_append]
               have kS : SR h17 (tkS T ((s : Int) - (f : Int)) (G 0 f) (G 1 f)) := by
                 rw [tkS, if_neg (by omega), e5, show sI 11 = [32, 98, 121, 32] from rfl]
                 have e9 := k17
                 simp only [List.append_assoc, List.cons_append, List.nil_append] at e9 ⊢
                 exact e9
               rw [clT_0 (by omega)] at eX
               rw [eX] at kS
               exact hP h17 ⟨kS, (((((((((((((((((fr).trans f1).trans f2).trans f3).trans f4).trans f5).trans f6).trans f7).trans f8).trans f9).trans f10).trans f11).trans f12).trans f13).trans f14).trans f15).trans f16).trans f17⟩)
            | (rw [clT_a (by omega) (by omega)] at eX
               have tl := tkS_len T (n := (s : Int) - (f : Int)) (p := G 0 f) (v := G 1 f) (by omega) (by omega) (by omega)
               have e5 : tk5 T ((s : Int) - (f : Int)) (G 0 f) = (((((((((((sp9 T ++ [116]) ++ [97]) ++ [107]) ++ [101]) ++ [32]) ++ dg ((s : Int) - (f : Int))) ++ [32]) ++ [97]) ++ [116]) ++ [32]) ++ dg (G 0 f)) := by unfold tk5; rw [show sI 9 = [116, 97, 107, 101, 32] from rfl, show sI 10 = [32, 97, 116, 32] from rfl]; simp only [List.append_assoc, List.cons_append, List.nil_append]
               have kS : SR h12 (tkS T ((s : Int) - (f : Int)) (G 0 f) (G 1 f)) := by
                 rw [tkS, if_pos (by omega), e5]
                 exact k12
               rw [clT_0 (by omega)] at eX
               rw [eX] at kS
               exact hP h12 ⟨kS, ((((((((((((fr).trans f1).trans f2).trans f3).trans f4).trans f5).trans f6).trans f7).trans f8).trans f9).trans f10).trans f11).trans f12⟩)
        · show jT _ _ 7 _ _ _ _
          refine tl_iconst rfl ?_
          refine tl_istore rfl (Nat.le_of_ble_eq_true rfl) rfl ?_
          show jT _ _ 10 _ _ _ _
          -- leaf 1 at 10
          first
            | (exfalso; omega)
            | (first
                | (rw [clT_a (by omega) (by omega)] at eX
                   have tl := tkS_len T (n := (s : Int) - (f : Int)) (p := G 0 f) (v := G 1 f) (by omega) (by omega) (by omega)
                   have e5 : tk5 T ((s : Int) - (f : Int)) (G 0 f) = (((((((((((sp9 T ++ [116]) ++ [97]) ++ [107]) ++ [101]) ++ [32]) ++ dg ((s : Int) - (f : Int))) ++ [32]) ++ [97]) ++ [116]) ++ [32]) ++ dg (G 0 f)) := by unfold tk5; rw [show sI 9 = [116, 97, 107, 101, 32] from rfl, show sI 10 = [32, 97, 116, 32] from rfl]; simp only [List.append_assoc, List.cons_append, List.nil_append]
                   have kS : SR h17 (tkS T ((s : Int) - (f : Int)) (G 0 f) (G 1 f)) := by
                     rw [tkS, if_neg (by omega), e5, show sI 11 = [32, 98, 121, 32] from rfl]
                     have e9 := k17
                     simp only [List.append_assoc, List.cons_append, List.nil_append] at e9 ⊢
                     exact e9
                   rw [show (f : Int) + ((s : Int) - (f : Int)) = (s : Int) by omega, show (1 : Int) = ((s + 1 : Nat) : Int) - (s : Int) by omega]
                   exact ih s (s + 1) _ h17 (by omega) ⟨by omega, by omega, by omega, kS, by omega, eX, (((((((((((((((((fr).trans f1).trans f2).trans f3).trans f4).trans f5).trans f6).trans f7).trans f8).trans f9).trans f10).trans f11).trans f12).trans f13).trans f14).trans f15).trans f16).trans f17⟩)
                | (rw [clT_a (by omega) (by omega)] at eX
                   have tl := tkS_len T (n := (s : Int) - (f : Int)) (p := G 0 f) (v := G 1 f) (by omega) (by omega) (by omega)
                   have e5 : tk5 T ((s : Int) - (f : Int)) (G 0 f) = (((((((((((sp9 T ++ [116]) ++ [97]) ++ [107]) ++ [101]) ++ [32]) ++ dg ((s : Int) - (f : Int))) ++ [32]) ++ [97]) ++ [116]) ++ [32]) ++ dg (G 0 f)) := by unfold tk5; rw [show sI 9 = [116, 97, 107, 101, 32] from rfl, show sI 10 = [32, 97, 116, 32] from rfl]; simp only [List.append_assoc, List.cons_append, List.nil_append]
                   have kS : SR h12 (tkS T ((s : Int) - (f : Int)) (G 0 f) (G 1 f)) := by
                     rw [tkS, if_pos (by omega), e5]
                     exact k12
                   rw [show (f : Int) + ((s : Int) - (f : Int)) = (s : Int) by omega, show (1 : Int) = ((s + 1 : Nat) : Int) - (s : Int) by omega]
                   exact ih s (s + 1) _ h12 (by omega) ⟨by omega, by omega, by omega, kS, by omega, eX, ((((((((((((fr).trans f1).trans f2).trans f3).trans f4).trans f5).trans f6).trans f7).trans f8).trans f9).trans f10).trans f11).trans f12⟩))
            | (rw [clT_b (by omega) (by omega)] at eX
               rw [show (s : Int) - (f : Int) + 1 = ((s + 1 : Nat) : Int) - (f : Int) by omega]
               exact ih f (s + 1) T mem (by omega) ⟨by omega, by omega, by omega, k0, by omega, eX, fr⟩)
      · show jT _ _ 125 _ _ _ _
        refine tl_aload_n rfl rfl ?_
        refine tl_bipush rfl rfl ?_
        refine tl_v1v (c9 := 12) (r_sign l h12 _ k12 (by (try simp only [List.length_append, List.length_cons, List.length_nil]); omega) 32) rfl rfl rfl rfl rfl (Nat.le_of_ble_eq_true rfl) (fun h13 p13 => ?_)
        obtain ⟨k13, f13⟩ := p13
        have g13 := g12.g9 f13
        show jT _ _ 131 _ _ _ _
        refine tl_aload_n rfl rfl ?_
        refine tl_bipush rfl rfl ?_
        refine tl_v1v (c9 := 12) (r_sign l h13 _ k13 (by (try simp only [List.length_append, List.length_cons, List.length_nil]); omega) 98) rfl rfl rfl rfl rfl (Nat.le_of_ble_eq_true rfl) (fun h14 p14 => ?_)
        obtain ⟨k14, f14⟩ := p14
        have g14 := g13.g9 f14
        refine tl_aload_n rfl rfl ?_
        refine tl_bipush rfl rfl ?_
        refine tl_v1v (c9 := 12) (r_sign l h14 _ k14 (by (try simp only [List.length_append, List.length_cons, List.length_nil]); omega) 121) rfl rfl rfl rfl rfl (Nat.le_of_ble_eq_true rfl) (fun h15 p15 => ?_)
        obtain ⟨k15, f15⟩ := p15
        have g15 := g14.g9 f15
        refine tl_aload_n rfl rfl ?_
        show jT _ _ 144 _ _ _ _
        refine tl_bipush rfl rfl ?_
        refine tl_v1v (c9 := 12) (r_sign l h15 _ k15 (by (try simp only [List.length_append, List.length_cons, List.length_nil]); omega) 32) rfl rfl rfl rfl rfl (Nat.le_of_ble_eq_true rfl) (fun h16 p16 => ?_)
        obtain ⟨k16, f16⟩ := p16
        have g16 := g15.g9 f16
        refine tl_aload_n rfl rfl ?_
        refine tl_aload_n rfl rfl ?_
        refine tl_getr (c := 12) (k9 := 24) (b := 404) rfl rfl rfl rfl ?_
        refine tl_iload_n rfl rfl ?_
        refine tl_iald (n := 64) rfl rfl rfl (by omega) (by omega) ?_
        rw [Int.toNat_natCast, (g16.2 f (by omega)).2]
        show jT _ _ 156 _ _ _ _
        refine tl_v1v (c9 := 12) (r_digits l h16 (G 1 f) (by omega) (by omega) _ k16 (by (try simp only [List.length_append, List.length_cons, List.length_nil]); omega)) rfl rfl rfl rfl rfl (Nat.le_of_ble_eq_true rfl) (fun h17 p17 => ?_)
        obtain ⟨k17, f17⟩ := p17
        have g17 := g16.g9 f17
        refine tl_iload_n rfl rfl ?_
        refine tl_iload rfl rfl ?_
        refine tl_iadd rfl ?_
        refine tl_istore_n rfl (Nat.le_of_ble_eq_true rfl) rfl ?_
        refine tl_goto (tgt := 2) rfl rfl ?_
        refine tl_iload_n rfl rfl ?_
        show jT _ _ 3 _ _ _ _
        refine tl_iload_n rfl rfl ?_
        refine tl_icmp_ge (tgt := 167) rfl rfl ⟨by omega, by omega⟩ ⟨by omega, by omega⟩ (fun c4 => ?_) (fun c4 => ?_)
        · skip
          refine tl_ret rfl ?_
          -- leaf 2 at 167
          first
            | (rw [clT_a (by omega) (by omega)] at eX
               have tl := tkS_len T (n := (s : Int) - (f : Int)) (p := G 0 f) (v := G 1 f) (by omega) (by omega) (by omega)
               have e5 : tk5 T ((s : Int) - (f : Int)) (G 0 f) = (((((((((((sp9 T ++ [116]) ++ [97]) ++ [107]) ++ [101]) ++ [32]) ++ dg ((s : Int) - (f : Int))) ++ [32]) ++ [97]) ++ [116]) ++ [32]) ++ dg (G 0 f)) := by unfold tk5; rw [show sI 9 = [116, 97, 107, 101, 32] from rfl, show sI 10 = [32, 97, 116, 32] from rfl]; simp only [List.append_assoc, List.cons_append, List.nil_append]
               have kS : SR h17 (tkS T ((s : Int) - (f : Int)) (G 0 f) (G 1 f)) := by
                 rw [tkS, if_neg (by omega), e5, show sI 11 = [32, 98, 121, 32] from rfl]
                 have e9 := k17
                 simp only [List.append_assoc, List.cons_append, List.nil_append] at e9 ⊢
                 exact e9
               rw [clT_0 (by omega)] at eX
               rw [eX] at kS
               exact hP h17 ⟨kS, (((((((((((((((((fr).trans f1).trans f2).trans f3).trans f4).trans f5).trans f6).trans f7).trans f8).trans f9).trans f10).trans f11).trans f12).trans f13).trans f14).trans f15).trans f16).trans f17⟩)
            | (rw [clT_a (by omega) (by omega)] at eX
               have tl := tkS_len T (n := (s : Int) - (f : Int)) (p := G 0 f) (v := G 1 f) (by omega) (by omega) (by omega)
               have e5 : tk5 T ((s : Int) - (f : Int)) (G 0 f) = (((((((((((sp9 T ++ [116]) ++ [97]) ++ [107]) ++ [101]) ++ [32]) ++ dg ((s : Int) - (f : Int))) ++ [32]) ++ [97]) ++ [116]) ++ [32]) ++ dg (G 0 f)) := by unfold tk5; rw [show sI 9 = [116, 97, 107, 101, 32] from rfl, show sI 10 = [32, 97, 116, 32] from rfl]; simp only [List.append_assoc, List.cons_append, List.nil_append]
               have kS : SR h12 (tkS T ((s : Int) - (f : Int)) (G 0 f) (G 1 f)) := by
                 rw [tkS, if_pos (by omega), e5]
                 exact k12
               rw [clT_0 (by omega)] at eX
               rw [eX] at kS
               exact hP h12 ⟨kS, ((((((((((((fr).trans f1).trans f2).trans f3).trans f4).trans f5).trans f6).trans f7).trans f8).trans f9).trans f10).trans f11).trans f12⟩)
        · show jT _ _ 7 _ _ _ _
          refine tl_iconst rfl ?_
          refine tl_istore rfl (Nat.le_of_ble_eq_true rfl) rfl ?_
          show jT _ _ 10 _ _ _ _
          -- leaf 3 at 10
          first
            | (exfalso; omega)
            | (first
                | (rw [clT_a (by omega) (by omega)] at eX
                   have tl := tkS_len T (n := (s : Int) - (f : Int)) (p := G 0 f) (v := G 1 f) (by omega) (by omega) (by omega)
                   have e5 : tk5 T ((s : Int) - (f : Int)) (G 0 f) = (((((((((((sp9 T ++ [116]) ++ [97]) ++ [107]) ++ [101]) ++ [32]) ++ dg ((s : Int) - (f : Int))) ++ [32]) ++ [97]) ++ [116]) ++ [32]) ++ dg (G 0 f)) := by unfold tk5; rw [show sI 9 = [116, 97, 107, 101, 32] from rfl, show sI 10 = [32, 97, 116, 32] from rfl]; simp only [List.append_assoc, List.cons_append, List.nil_append]
                   have kS : SR h17 (tkS T ((s : Int) - (f : Int)) (G 0 f) (G 1 f)) := by
                     rw [tkS, if_neg (by omega), e5, show sI 11 = [32, 98, 121, 32] from rfl]
                     have e9 := k17
                     simp only [List.append_assoc, List.cons_append, List.nil_append] at e9 ⊢
                     exact e9
                   rw [show (f : Int) + ((s : Int) - (f : Int)) = (s : Int) by omega, show (1 : Int) = ((s + 1 : Nat) : Int) - (s : Int) by omega]
                   exact ih s (s + 1) _ h17 (by omega) ⟨by omega, by omega, by omega, kS, by omega, eX, (((((((((((((((((fr).trans f1).trans f2).trans f3).trans f4).trans f5).trans f6).trans f7).trans f8).trans f9).trans f10).trans f11).trans f12).trans f13).trans f14).trans f15).trans f16).trans f17⟩)
                | (rw [clT_a (by omega) (by omega)] at eX
                   have tl := tkS_len T (n := (s : Int) - (f : Int)) (p := G 0 f) (v := G 1 f) (by omega) (by omega) (by omega)
                   have e5 : tk5 T ((s : Int) - (f : Int)) (G 0 f) = (((((((((((sp9 T ++ [116]) ++ [97]) ++ [107]) ++ [101]) ++ [32]) ++ dg ((s : Int) - (f : Int))) ++ [32]) ++ [97]) ++ [116]) ++ [32]) ++ dg (G 0 f)) := by unfold tk5; rw [show sI 9 = [116, 97, 107, 101, 32] from rfl, show sI 10 = [32, 97, 116, 32] from rfl]; simp only [List.append_assoc, List.cons_append, List.nil_append]
                   have kS : SR h12 (tkS T ((s : Int) - (f : Int)) (G 0 f) (G 1 f)) := by
                     rw [tkS, if_pos (by omega), e5]
                     exact k12
                   rw [show (f : Int) + ((s : Int) - (f : Int)) = (s : Int) by omega, show (1 : Int) = ((s + 1 : Nat) : Int) - (s : Int) by omega]
                   exact ih s (s + 1) _ h12 (by omega) ⟨by omega, by omega, by omega, kS, by omega, eX, ((((((((((((fr).trans f1).trans f2).trans f3).trans f4).trans f5).trans f6).trans f7).trans f8).trans f9).trans f10).trans f11).trans f12⟩))
            | (rw [clT_b (by omega) (by omega)] at eX
               rw [show (s : Int) - (f : Int) + 1 = ((s + 1 : Nat) : Int) - (f : Int) by omega]
               exact ih f (s + 1) T mem (by omega) ⟨by omega, by omega, by omega, k0, by omega, eX, fr⟩)
    · show jT _ _ 18 _ _ _ _
      refine tl_aload_n rfl rfl ?_
      refine tl_getr (c := 12) (k9 := 24) (b := 404) rfl rfl rfl rfl ?_
      show jT _ _ 22 _ _ _ _
      refine tl_iload_n rfl rfl ?_
      refine tl_iload rfl rfl ?_
      refine tl_iadd rfl ?_
      refine tl_iald (n := 64) rfl rfl rfl (by omega) (by omega) ?_
      rw [show (f : Int) + ((s : Int) - (f : Int)) = (s : Int) by omega, Int.toNat_natCast, (g0.2 s (by omega)).2]
      refine tl_aload_n rfl rfl ?_
      refine tl_getr (c := 12) (k9 := 24) (b := 404) rfl rfl rfl rfl ?_
      refine tl_iload_n rfl rfl ?_
      show jT _ _ 32 _ _ _ _
      refine tl_iald (n := 64) rfl rfl rfl (by omega) (by omega) ?_
      rw [Int.toNat_natCast, (g0.2 f (by omega)).2]
      refine tl_icmp_ne (tgt := 42) rfl rfl ⟨by omega, by omega⟩ ⟨by omega, by omega⟩ (fun c5 => ?_) (fun c5 => ?_)
      · skip
        refine tl_aload_n rfl rfl ?_
        refine tl_v0v (c9 := 12) (r_between l mem T k0 (by omega)) rfl rfl rfl rfl rfl (Nat.le_of_ble_eq_true rfl) (fun h1 p1 => ?_)
        obtain ⟨k1, f1⟩ := p1
        have g1 := g0.g9 f1
        refine tl_aload_n rfl rfl ?_
        refine tl_bipush rfl rfl ?_
        refine tl_v1v (c9 := 12) (r_sign l h1 _ k1 (by (try simp only [List.length_append, List.length_cons, List.length_nil]); omega) 116) rfl rfl rfl rfl rfl (Nat.le_of_ble_eq_true rfl) (fun h2 p2 => ?_)
        obtain ⟨k2, f2⟩ := p2
        have g2 := g1.g9 f2
        show jT _ _ 52 _ _ _ _
        refine tl_aload_n rfl rfl ?_
        refine tl_bipush rfl rfl ?_
        refine tl_v1v (c9 := 12) (r_sign l h2 _ k2 (by (try simp only [List.length_append, List.length_cons, List.length_nil]); omega) 97) rfl rfl rfl rfl rfl (Nat.le_of_ble_eq_true rfl) (fun h3 p3 => ?_)
        obtain ⟨k3, f3⟩ := p3
        have g3 := g2.g9 f3
        refine tl_aload_n rfl rfl ?_
        refine tl_bipush rfl rfl ?_
        refine tl_v1v (c9 := 12) (r_sign l h3 _ k3 (by (try simp only [List.length_append, List.length_cons, List.length_nil]); omega) 107) rfl rfl rfl rfl rfl (Nat.le_of_ble_eq_true rfl) (fun h4 p4 => ?_)
        obtain ⟨k4, f4⟩ := p4
        have g4 := g3.g9 f4
        refine tl_aload_n rfl rfl ?_
        show jT _ _ 65 _ _ _ _
        refine tl_bipush rfl rfl ?_
        refine tl_v1v (c9 := 12) (r_sign l h4 _ k4 (by (try simp only [List.length_append, List.length_cons, List.length_nil]); omega) 101) rfl rfl rfl rfl rfl (Nat.le_of_ble_eq_true rfl) (fun h5 p5 => ?_)
        obtain ⟨k5, f5⟩ := p5
        have g5 := g4.g9 f5
        refine tl_aload_n rfl rfl ?_
        refine tl_bipush rfl rfl ?_
        refine tl_v1v (c9 := 12) (r_sign l h5 _ k5 (by (try simp only [List.length_append, List.length_cons, List.length_nil]); omega) 32) rfl rfl rfl rfl rfl (Nat.le_of_ble_eq_true rfl) (fun h6 p6 => ?_)
        obtain ⟨k6, f6⟩ := p6
        have g6 := g5.g9 f6
        refine tl_aload_n rfl rfl ?_
        refine tl_iload rfl rfl ?_
        show jT _ _ 79 _ _ _ _
        refine tl_v1v (c9 := 12) (r_digits l h6 ((s : Int) - (f : Int)) (by omega) (by omega) _ k6 (by (try simp only [List.length_append, List.length_cons, List.length_nil]); omega)) rfl rfl rfl rfl rfl (Nat.le_of_ble_eq_true rfl) (fun h7 p7 => ?_)
        obtain ⟨k7, f7⟩ := p7
        have g7 := g6.g9 f7
        refine tl_aload_n rfl rfl ?_
        refine tl_bipush rfl rfl ?_
        refine tl_v1v (c9 := 12) (r_sign l h7 _ k7 (by (try simp only [List.length_append, List.length_cons, List.length_nil]); omega) 32) rfl rfl rfl rfl rfl (Nat.le_of_ble_eq_true rfl) (fun h8 p8 => ?_)
        obtain ⟨k8, f8⟩ := p8
        have g8 := g7.g9 f8
        refine tl_aload_n rfl rfl ?_
        refine tl_bipush rfl rfl ?_
        refine tl_v1v (c9 := 12) (r_sign l h8 _ k8 (by (try simp only [List.length_append, List.length_cons, List.length_nil]); omega) 97) rfl rfl rfl rfl rfl (Nat.le_of_ble_eq_true rfl) (fun h9 p9 => ?_)
        obtain ⟨k9, f9⟩ := p9
        have g9 := g8.g9 f9
        show jT _ _ 94 _ _ _ _
        refine tl_aload_n rfl rfl ?_
        refine tl_bipush rfl rfl ?_
        refine tl_v1v (c9 := 12) (r_sign l h9 _ k9 (by (try simp only [List.length_append, List.length_cons, List.length_nil]); omega) 116) rfl rfl rfl rfl rfl (Nat.le_of_ble_eq_true rfl) (fun h10 p10 => ?_)
        obtain ⟨k10, f10⟩ := p10
        have g10 := g9.g9 f10
        refine tl_aload_n rfl rfl ?_
        refine tl_bipush rfl rfl ?_
        refine tl_v1v (c9 := 12) (r_sign l h10 _ k10 (by (try simp only [List.length_append, List.length_cons, List.length_nil]); omega) 32) rfl rfl rfl rfl rfl (Nat.le_of_ble_eq_true rfl) (fun h11 p11 => ?_)
        obtain ⟨k11, f11⟩ := p11
        have g11 := g10.g9 f11
        refine tl_aload_n rfl rfl ?_
        show jT _ _ 107 _ _ _ _
        refine tl_aload_n rfl rfl ?_
        refine tl_getr (c := 12) (k9 := 23) (b := 403) rfl rfl rfl rfl ?_
        refine tl_iload_n rfl rfl ?_
        refine tl_iald (n := 64) rfl rfl rfl (by omega) (by omega) ?_
        rw [Int.toNat_natCast, (g11.2 f (by omega)).1]
        refine tl_v1v (c9 := 12) (r_digits l h11 (G 0 f) (by omega) (by omega) _ k11 (by (try simp only [List.length_append, List.length_cons, List.length_nil]); omega)) rfl rfl rfl rfl rfl (Nat.le_of_ble_eq_true rfl) (fun h12 p12 => ?_)
        obtain ⟨k12, f12⟩ := p12
        have g12 := g11.g9 f12
        refine tl_aload_n rfl rfl ?_
        refine tl_getr (c := 12) (k9 := 24) (b := 404) rfl rfl rfl rfl ?_
        show jT _ _ 120 _ _ _ _
        refine tl_iload_n rfl rfl ?_
        refine tl_iald (n := 64) rfl rfl rfl (by omega) (by omega) ?_
        rw [Int.toNat_natCast, (g12.2 f (by omega)).2]
        refine tl_if_eq (tgt := 159) rfl rfl ⟨by omega, by omega⟩ (fun c6 => ?_) (fun c6 => ?_)
        · skip
          refine tl_iload_n rfl rfl ?_
          refine tl_iload rfl rfl ?_
          refine tl_iadd rfl ?_
          refine tl_istore_n rfl (Nat.le_of_ble_eq_true rfl) rfl ?_
          show jT _ _ 164 _ _ _ _
          refine tl_goto (tgt := 2) rfl rfl ?_
          refine tl_iload_n rfl rfl ?_
          refine tl_iload_n rfl rfl ?_
          refine tl_icmp_ge (tgt := 167) rfl rfl ⟨by omega, by omega⟩ ⟨by omega, by omega⟩ (fun c7 => ?_) (fun c7 => ?_)
          · skip
            refine tl_ret rfl ?_
            -- leaf 4 at 167
            first
              | (rw [clT_a (by omega) (by omega)] at eX
                 have tl := tkS_len T (n := (s : Int) - (f : Int)) (p := G 0 f) (v := G 1 f) (by omega) (by omega) (by omega)
                 have e5 : tk5 T ((s : Int) - (f : Int)) (G 0 f) = (((((((((((sp9 T ++ [116]) ++ [97]) ++ [107]) ++ [101]) ++ [32]) ++ dg ((s : Int) - (f : Int))) ++ [32]) ++ [97]) ++ [116]) ++ [32]) ++ dg (G 0 f)) := by unfold tk5; rw [show sI 9 = [116, 97, 107, 101, 32] from rfl, show sI 10 = [32, 97, 116, 32] from rfl]; simp only [List.append_assoc, List.cons_append, List.nil_append]
                 have kS : SR h17 (tkS T ((s : Int) - (f : Int)) (G 0 f) (G 1 f)) := by
                   rw [tkS, if_neg (by omega), e5, show sI 11 = [32, 98, 121, 32] from rfl]
                   have e9 := k17
                   simp only [List.append_assoc, List.cons_append, List.nil_append] at e9 ⊢
                   exact e9
                 rw [clT_0 (by omega)] at eX
                 rw [eX] at kS
                 exact hP h17 ⟨kS, (((((((((((((((((fr).trans f1).trans f2).trans f3).trans f4).trans f5).trans f6).trans f7).trans f8).trans f9).trans f10).trans f11).trans f12).trans f13).trans f14).trans f15).trans f16).trans f17⟩)
              | (rw [clT_a (by omega) (by omega)] at eX
                 have tl := tkS_len T (n := (s : Int) - (f : Int)) (p := G 0 f) (v := G 1 f) (by omega) (by omega) (by omega)
                 have e5 : tk5 T ((s : Int) - (f : Int)) (G 0 f) = (((((((((((sp9 T ++ [116]) ++ [97]) ++ [107]) ++ [101]) ++ [32]) ++ dg ((s : Int) - (f : Int))) ++ [32]) ++ [97]) ++ [116]) ++ [32]) ++ dg (G 0 f)) := by unfold tk5; rw [show sI 9 = [116, 97, 107, 101, 32] from rfl, show sI 10 = [32, 97, 116, 32] from rfl]; simp only [List.append_assoc, List.cons_append, List.nil_append]
                 have kS : SR h12 (tkS T ((s : Int) - (f : Int)) (G 0 f) (G 1 f)) := by
                   rw [tkS, if_pos (by omega), e5]
                   exact k12
                 rw [clT_0 (by omega)] at eX
                 rw [eX] at kS
                 exact hP h12 ⟨kS, ((((((((((((fr).trans f1).trans f2).trans f3).trans f4).trans f5).trans f6).trans f7).trans f8).trans f9).trans f10).trans f11).trans f12⟩)
          · show jT _ _ 7 _ _ _ _
            refine tl_iconst rfl ?_
            refine tl_istore rfl (Nat.le_of_ble_eq_true rfl) rfl ?_
            show jT _ _ 10 _ _ _ _
            -- leaf 5 at 10
            first
              | (exfalso; omega)
              | (first
                  | (rw [clT_a (by omega) (by omega)] at eX
                     have tl := tkS_len T (n := (s : Int) - (f : Int)) (p := G 0 f) (v := G 1 f) (by omega) (by omega) (by omega)
                     have e5 : tk5 T ((s : Int) - (f : Int)) (G 0 f) = (((((((((((sp9 T ++ [116]) ++ [97]) ++ [107]) ++ [101]) ++ [32]) ++ dg ((s : Int) - (f : Int))) ++ [32]) ++ [97]) ++ [116]) ++ [32]) ++ dg (G 0 f)) := by unfold tk5; rw [show sI 9 = [116, 97, 107, 101, 32] from rfl, show sI 10 = [32, 97, 116, 32] from rfl]; simp only [List.append_assoc, List.cons_append, List.nil_append]
                     have kS : SR h17 (tkS T ((s : Int) - (f : Int)) (G 0 f) (G 1 f)) := by
                       rw [tkS, if_neg (by omega), e5, show sI 11 = [32, 98, 121, 32] from rfl]
                       have e9 := k17
                       simp only [List.append_assoc, List.cons_append, List.nil_append] at e9 ⊢
                       exact e9
                     rw [show (f : Int) + ((s : Int) - (f : Int)) = (s : Int) by omega, show (1 : Int) = ((s + 1 : Nat) : Int) - (s : Int) by omega]
                     exact ih s (s + 1) _ h17 (by omega) ⟨by omega, by omega, by omega, kS, by omega, eX, (((((((((((((((((fr).trans f1).trans f2).trans f3).trans f4).trans f5).trans f6).trans f7).trans f8).trans f9).trans f10).trans f11).trans f12).trans f13).trans f14).trans f15).trans f16).trans f17⟩)
                  | (rw [clT_a (by omega) (by omega)] at eX
                     have tl := tkS_len T (n := (s : Int) - (f : Int)) (p := G 0 f) (v := G 1 f) (by omega) (by omega) (by omega)
                     have e5 : tk5 T ((s : Int) - (f : Int)) (G 0 f) = (((((((((((sp9 T ++ [116]) ++ [97]) ++ [107]) ++ [101]) ++ [32]) ++ dg ((s : Int) - (f : Int))) ++ [32]) ++ [97]) ++ [116]) ++ [32]) ++ dg (G 0 f)) := by unfold tk5; rw [show sI 9 = [116, 97, 107, 101, 32] from rfl, show sI 10 = [32, 97, 116, 32] from rfl]; simp only [List.append_assoc, List.cons_append, List.nil_append]
                     have kS : SR h12 (tkS T ((s : Int) - (f : Int)) (G 0 f) (G 1 f)) := by
                       rw [tkS, if_pos (by omega), e5]
                       exact k12
                     rw [show (f : Int) + ((s : Int) - (f : Int)) = (s : Int) by omega, show (1 : Int) = ((s + 1 : Nat) : Int) - (s : Int) by omega]
                     exact ih s (s + 1) _ h12 (by omega) ⟨by omega, by omega, by omega, kS, by omega, eX, ((((((((((((fr).trans f1).trans f2).trans f3).trans f4).trans f5).trans f6).trans f7).trans f8).trans f9).trans f10).trans f11).trans f12⟩))
              | (rw [clT_b (by omega) (by omega)] at eX
                 rw [show (s : Int) - (f : Int) + 1 = ((s + 1 : Nat) : Int) - (f : Int) by omega]
                 exact ih f (s + 1) T mem (by omega) ⟨by omega, by omega, by omega, k0, by omega, eX, fr⟩)
        · show jT _ _ 125 _ _ _ _
          show jT _ _ 125 _ _ _ _
          refine tl_aload_n rfl rfl ?_
          refine tl_bipush rfl rfl ?_
          refine tl_v1v (c9 := 12) (r_sign l h12 _ k12 (by (try simp only [List.length_append, List.length_cons, List.length_nil]); omega) 32) rfl rfl rfl rfl rfl (Nat.le_of_ble_eq_true rfl) (fun h13 p13 => ?_)
          obtain ⟨k13, f13⟩ := p13
          have g13 := g12.g9 f13
          refine tl_aload_n rfl rfl ?_
          refine tl_bipush rfl rfl ?_
          refine tl_v1v (c9 := 12) (r_sign l h13 _ k13 (by (try simp only [List.length_append, List.length_cons, List.length_nil]); omega) 98) rfl rfl rfl rfl rfl (Nat.le_of_ble_eq_true rfl) (fun h14 p14 => ?_)
          obtain ⟨k14, f14⟩ := p14
          have g14 := g13.g9 f14
          refine tl_aload_n rfl rfl ?_
          show jT _ _ 138 _ _ _ _
          refine tl_bipush rfl rfl ?_
          refine tl_v1v (c9 := 12) (r_sign l h14 _ k14 (by (try simp only [List.length_append, List.length_cons, List.length_nil]); omega) 121) rfl rfl rfl rfl rfl (Nat.le_of_ble_eq_true rfl) (fun h15 p15 => ?_)
          obtain ⟨k15, f15⟩ := p15
          have g15 := g14.g9 f15
          refine tl_aload_n rfl rfl ?_
          refine tl_bipush rfl rfl ?_
          refine tl_v1v (c9 := 12) (r_sign l h15 _ k15 (by (try simp only [List.length_append, List.length_cons, List.length_nil]); omega) 32) rfl rfl rfl rfl rfl (Nat.le_of_ble_eq_true rfl) (fun h16 p16 => ?_)
          obtain ⟨k16, f16⟩ := p16
          have g16 := g15.g9 f16
          refine tl_aload_n rfl rfl ?_
          refine tl_aload_n rfl rfl ?_
          show jT _ _ 151 _ _ _ _
          refine tl_getr (c := 12) (k9 := 24) (b := 404) rfl rfl rfl rfl ?_
          refine tl_iload_n rfl rfl ?_
          refine tl_iald (n := 64) rfl rfl rfl (by omega) (by omega) ?_
          rw [Int.toNat_natCast, (g16.2 f (by omega)).2]
          refine tl_v1v (c9 := 12) (r_digits l h16 (G 1 f) (by omega) (by omega) _ k16 (by (try simp only [List.length_append, List.length_cons, List.length_nil]); omega)) rfl rfl rfl rfl rfl (Nat.le_of_ble_eq_true rfl) (fun h17 p17 => ?_)
          obtain ⟨k17, f17⟩ := p17
          have g17 := g16.g9 f17
          refine tl_iload_n rfl rfl ?_
          refine tl_iload rfl rfl ?_
          refine tl_iadd rfl ?_
          show jT _ _ 163 _ _ _ _
          refine tl_istore_n rfl (Nat.le_of_ble_eq_true rfl) rfl ?_
          refine tl_goto (tgt := 2) rfl rfl ?_
          refine tl_iload_n rfl rfl ?_
          refine tl_iload_n rfl rfl ?_
          refine tl_icmp_ge (tgt := 167) rfl rfl ⟨by omega, by omega⟩ ⟨by omega, by omega⟩ (fun c8 => ?_) (fun c8 => ?_)
          · skip
            refine tl_ret rfl ?_
            -- leaf 6 at 167
            first
              | (rw [clT_a (by omega) (by omega)] at eX
                 have tl := tkS_len T (n := (s : Int) - (f : Int)) (p := G 0 f) (v := G 1 f) (by omega) (by omega) (by omega)
                 have e5 : tk5 T ((s : Int) - (f : Int)) (G 0 f) = (((((((((((sp9 T ++ [116]) ++ [97]) ++ [107]) ++ [101]) ++ [32]) ++ dg ((s : Int) - (f : Int))) ++ [32]) ++ [97]) ++ [116]) ++ [32]) ++ dg (G 0 f)) := by unfold tk5; rw [show sI 9 = [116, 97, 107, 101, 32] from rfl, show sI 10 = [32, 97, 116, 32] from rfl]; simp only [List.append_assoc, List.cons_append, List.nil_append]
                 have kS : SR h17 (tkS T ((s : Int) - (f : Int)) (G 0 f) (G 1 f)) := by
                   rw [tkS, if_neg (by omega), e5, show sI 11 = [32, 98, 121, 32] from rfl]
                   have e9 := k17
                   simp only [List.append_assoc, List.cons_append, List.nil_append] at e9 ⊢
                   exact e9
                 rw [clT_0 (by omega)] at eX
                 rw [eX] at kS
                 exact hP h17 ⟨kS, (((((((((((((((((fr).trans f1).trans f2).trans f3).trans f4).trans f5).trans f6).trans f7).trans f8).trans f9).trans f10).trans f11).trans f12).trans f13).trans f14).trans f15).trans f16).trans f17⟩)
              | (rw [clT_a (by omega) (by omega)] at eX
                 have tl := tkS_len T (n := (s : Int) - (f : Int)) (p := G 0 f) (v := G 1 f) (by omega) (by omega) (by omega)
                 have e5 : tk5 T ((s : Int) - (f : Int)) (G 0 f) = (((((((((((sp9 T ++ [116]) ++ [97]) ++ [107]) ++ [101]) ++ [32]) ++ dg ((s : Int) - (f : Int))) ++ [32]) ++ [97]) ++ [116]) ++ [32]) ++ dg (G 0 f)) := by unfold tk5; rw [show sI 9 = [116, 97, 107, 101, 32] from rfl, show sI 10 = [32, 97, 116, 32] from rfl]; simp only [List.append_assoc, List.cons_append, List.nil_append]
                 have kS : SR h12 (tkS T ((s : Int) - (f : Int)) (G 0 f) (G 1 f)) := by
                   rw [tkS, if_pos (by omega), e5]
                   exact k12
                 rw [clT_0 (by omega)] at eX
                 rw [eX] at kS
                 exact hP h12 ⟨kS, ((((((((((((fr).trans f1).trans f2).trans f3).trans f4).trans f5).trans f6).trans f7).trans f8).trans f9).trans f10).trans f11).trans f12⟩)
          · show jT _ _ 7 _ _ _ _
            refine tl_iconst rfl ?_
            show jT _ _ 8 _ _ _ _
            refine tl_istore rfl (Nat.le_of_ble_eq_true rfl) rfl ?_
            show jT _ _ 10 _ _ _ _
            -- leaf 7 at 10
            first
              | (exfalso; omega)
              | (first
                  | (rw [clT_a (by omega) (by omega)] at eX
                     have tl := tkS_len T (n := (s : Int) - (f : Int)) (p := G 0 f) (v := G 1 f) (by omega) (by omega) (by omega)
                     have e5 : tk5 T ((s : Int) - (f : Int)) (G 0 f) = (((((((((((sp9 T ++ [116]) ++ [97]) ++ [107]) ++ [101]) ++ [32]) ++ dg ((s : Int) - (f : Int))) ++ [32]) ++ [97]) ++ [116]) ++ [32]) ++ dg (G 0 f)) := by unfold tk5; rw [show sI 9 = [116, 97, 107, 101, 32] from rfl, show sI 10 = [32, 97, 116, 32] from rfl]; simp only [List.append_assoc, List.cons_append, List.nil_append]
                     have kS : SR h17 (tkS T ((s : Int) - (f : Int)) (G 0 f) (G 1 f)) := by
                       rw [tkS, if_neg (by omega), e5, show sI 11 = [32, 98, 121, 32] from rfl]
                       have e9 := k17
                       simp only [List.append_assoc, List.cons_append, List.nil_append] at e9 ⊢
                       exact e9
                     rw [show (f : Int) + ((s : Int) - (f : Int)) = (s : Int) by omega, show (1 : Int) = ((s + 1 : Nat) : Int) - (s : Int) by omega]
                     exact ih s (s + 1) _ h17 (by omega) ⟨by omega, by omega, by omega, kS, by omega, eX, (((((((((((((((((fr).trans f1).trans f2).trans f3).trans f4).trans f5).trans f6).trans f7).trans f8).trans f9).trans f10).trans f11).trans f12).trans f13).trans f14).trans f15).trans f16).trans f17⟩)
                  | (rw [clT_a (by omega) (by omega)] at eX
                     have tl := tkS_len T (n := (s : Int) - (f : Int)) (p := G 0 f) (v := G 1 f) (by omega) (by omega) (by omega)
                     have e5 : tk5 T ((s : Int) - (f : Int)) (G 0 f) = (((((((((((sp9 T ++ [116]) ++ [97]) ++ [107]) ++ [101]) ++ [32]) ++ dg ((s : Int) - (f : Int))) ++ [32]) ++ [97]) ++ [116]) ++ [32]) ++ dg (G 0 f)) := by unfold tk5; rw [show sI 9 = [116, 97, 107, 101, 32] from rfl, show sI 10 = [32, 97, 116, 32] from rfl]; simp only [List.append_assoc, List.cons_append, List.nil_append]
                     have kS : SR h12 (tkS T ((s : Int) - (f : Int)) (G 0 f) (G 1 f)) := by
                       rw [tkS, if_pos (by omega), e5]
                       exact k12
                     rw [show (f : Int) + ((s : Int) - (f : Int)) = (s : Int) by omega, show (1 : Int) = ((s + 1 : Nat) : Int) - (s : Int) by omega]
                     exact ih s (s + 1) _ h12 (by omega) ⟨by omega, by omega, by omega, kS, by omega, eX, ((((((((((((fr).trans f1).trans f2).trans f3).trans f4).trans f5).trans f6).trans f7).trans f8).trans f9).trans f10).trans f11).trans f12⟩))
              | (rw [clT_b (by omega) (by omega)] at eX
                 rw [show (s : Int) - (f : Int) + 1 = ((s + 1 : Nat) : Int) - (f : Int) by omega]
                 exact ih f (s + 1) T mem (by omega) ⟨by omega, by omega, by omega, k0, by omega, eX, fr⟩)
      · show jT _ _ 36 _ _ _ _
        refine tl_iinc rfl rfl rfl ?_
        refine tl_goto (tgt := 10) rfl rfl ?_
        show jT _ _ 10 _ _ _ _
        -- leaf 8 at 10
        first
          | (exfalso; omega)
          | (first
              | (rw [clT_a (by omega) (by omega)] at eX
                 have tl := tkS_len T (n := (s : Int) - (f : Int)) (p := G 0 f) (v := G 1 f) (by omega) (by omega) (by omega)
                 have e5 : tk5 T ((s : Int) - (f : Int)) (G 0 f) = (((((((((((sp9 T ++ [116]) ++ [97]) ++ [107]) ++ [101]) ++ [32]) ++ dg ((s : Int) - (f : Int))) ++ [32]) ++ [97]) ++ [116]) ++ [32]) ++ dg (G 0 f)) := by unfold tk5; rw [show sI 9 = [116, 97, 107, 101, 32] from rfl, show sI 10 = [32, 97, 116, 32] from rfl]; simp only [List.append_assoc, List.cons_append, List.nil_append]
                 have kS : SR h17 (tkS T ((s : Int) - (f : Int)) (G 0 f) (G 1 f)) := by
                   rw [tkS, if_neg (by omega), e5, show sI 11 = [32, 98, 121, 32] from rfl]
                   have e9 := k17
                   simp only [List.append_assoc, List.cons_append, List.nil_append] at e9 ⊢
                   exact e9
                 rw [show (f : Int) + ((s : Int) - (f : Int)) = (s : Int) by omega, show (1 : Int) = ((s + 1 : Nat) : Int) - (s : Int) by omega]
                 exact ih s (s + 1) _ h17 (by omega) ⟨by omega, by omega, by omega, kS, by omega, eX, (((((((((((((((((fr).trans f1).trans f2).trans f3).trans f4).trans f5).trans f6).trans f7).trans f8).trans f9).trans f10).trans f11).trans f12).trans f13).trans f14).trans f15).trans f16).trans f17⟩)
              | (rw [clT_a (by omega) (by omega)] at eX
                 have tl := tkS_len T (n := (s : Int) - (f : Int)) (p := G 0 f) (v := G 1 f) (by omega) (by omega) (by omega)
                 have e5 : tk5 T ((s : Int) - (f : Int)) (G 0 f) = (((((((((((sp9 T ++ [116]) ++ [97]) ++ [107]) ++ [101]) ++ [32]) ++ dg ((s : Int) - (f : Int))) ++ [32]) ++ [97]) ++ [116]) ++ [32]) ++ dg (G 0 f)) := by unfold tk5; rw [show sI 9 = [116, 97, 107, 101, 32] from rfl, show sI 10 = [32, 97, 116, 32] from rfl]; simp only [List.append_assoc, List.cons_append, List.nil_append]
                 have kS : SR h12 (tkS T ((s : Int) - (f : Int)) (G 0 f) (G 1 f)) := by
                   rw [tkS, if_pos (by omega), e5]
                   exact k12
                 rw [show (f : Int) + ((s : Int) - (f : Int)) = (s : Int) by omega, show (1 : Int) = ((s + 1 : Nat) : Int) - (s : Int) by omega]
                 exact ih s (s + 1) _ h12 (by omega) ⟨by omega, by omega, by omega, kS, by omega, eX, ((((((((((((fr).trans f1).trans f2).trans f3).trans f4).trans f5).trans f6).trans f7).trans f8).trans f9).trans f10).trans f11).trans f12⟩))
          | (rw [clT_b (by omega) (by omega)] at eX
             rw [show (s : Int) - (f : Int) + 1 = ((s + 1 : Nat) : Int) - (f : Int) by omega]
             exact ih f (s + 1) T mem (by omega) ⟨by omega, by omega, by omega, k0, by omega, eX, fr⟩)
set_option maxRecDepth 20000 in
set_option maxHeartbeats 1000000 in
theorem r_listCopied (l : Launch) (h : jH) (G : jH) (n : Nat) (hg : OGR h G n) (hv : OGv G n) (f u : Nat) (fu : f ≤ u) (un : u ≤ n) (hp : ∀ q, f ≤ q → q < u → 0 ≤ G 0 q) (T : List Int) (kT : SR h T) (bd : T.length + 20 * u ≤ 1280 + 20 * f) : cV l 338 [.ref 388, .int (jI (f : Int)), .int (jI (u : Int))] h (fun h' => SR h' (clT G u (u + 1 - (f + 1)) f (f + 1) T) ∧ FG h h') := by
  have n64 := hv.1
  refine cV.of rfl rfl ?_
  refine tl_iload_n rfl rfl ?_
  refine tl_istore_n rfl (Nat.le_of_ble_eq_true rfl) rfl ?_
  refine tl_iload_n rfl rfl ?_
  refine tl_iload_n rfl rfl ?_
  refine tl_icmp_ge (tgt := 167) rfl rfl ⟨by omega, by omega⟩ ⟨by omega, by omega⟩ (fun c1 => ?_) (fun c1 => ?_)
  · skip
    refine tl_ret rfl ?_
    -- leaf 0 at 167
    rw [clT_0 (by omega)]
    exact ⟨rfl, kT, FG.rfl9⟩
  · show jT _ _ 7 _ _ _ _
    show jT _ _ 7 _ _ _ _
    refine tl_iconst rfl ?_
    refine tl_istore rfl (Nat.le_of_ble_eq_true rfl) rfl ?_
    show jT _ _ 10 _ _ _ _
    -- leaf 1 at 10
    refine jT.loc ?_ (r_lcp_lp l h G n hg hv u un f hp _ (f : Int) _ (fun mem hj => ⟨rfl, hj⟩) _ f (f + 1) T h (Nat.lt_succ_self _) ⟨by omega, by omega, by omega, kT, bd, rfl, FG.rfl9⟩)
    rw [show ((f + 1 : Nat) : Int) - (f : Int) = 1 by omega]; rfl
set_option maxRecDepth 20000 in
set_option maxHeartbeats 1000000 in
theorem r_le_lp (l : Launch) (h : jH) (G : jH) (n : Nat) (hg : OGR h G n) (hv : OGv G n) (b u : Nat) (un : u ≤ n) (X : List Int) (P : Option Value → jH → Prop) (hP : ∀ mem, (SR mem X ∧ FG h mem) → P none mem) : ∀ (m : Nat) (s : Nat) (T : List Int) (mem : jH), u - s < m → (b ≤ s ∧ s ≤ u ∧ SR mem T ∧ T.length + 20 * (u - s) ≤ 1280 ∧ exT G b (u - s) s T = X ∧ FG h mem) → jT l 339 2 [some (.ref 388), some (.int (jI ((b : Int)))), some (.int (jI ((u : Int)))), some (.int (jI ((s : Int))))] [] mem P := by
  intro m
  induction m with
  | zero => intro s T mem hk; omega
  | succ m ih =>
    intro s T mem hk hi
    obtain ⟨i0, i1, k0, bd, eX, fr⟩ := hi
    have g0 : OGR mem G n := hg.g9 fr
    have n64 := hv.1
    have vs : u ≤ s ∨ (s < u ∧ byt (G 1 s)) := by
      by_cases c : s < u
      · exact Or.inr ⟨c, (hv.2 s (by omega)).2⟩
      · exact Or.inl (by omega)
    unfold byt at vs
    have s9 := sp9_len T
    have dv := dg_len (G 1 s)
    have xl := exS_len G b s T
    refine tl_iload_n rfl rfl ?_
    refine tl_iload_n rfl rfl ?_
    refine tl_icmp_ge (tgt := 65) rfl rfl ⟨by omega, by omega⟩ ⟨by omega, by omega⟩ (fun c1 => ?_) (fun c1 => ?_)
    · skip
      refine tl_ret rfl ?_
      -- leaf 0 at 65
      rw [show u - s = 0 by omega] at eX
      have eX2 : T = X := eX
      subst eX2
      exact hP mem ⟨k0, fr⟩
    · show jT _ _ 7 _ _ _ _
      refine tl_iload_n rfl rfl ?_
      refine tl_iload_n rfl rfl ?_
      show jT _ _ 9 _ _ _ _
      refine tl_icmp_le (tgt := 21) rfl rfl ⟨by omega, by omega⟩ ⟨by omega, by omega⟩ (fun c2 => ?_) (fun c2 => ?_)
      · skip
        refine tl_aload_n rfl rfl ?_
        refine tl_v0v (c9 := 12) (r_between l mem T k0 (by omega)) rfl rfl rfl rfl rfl (Nat.le_of_ble_eq_true rfl) (fun h1 p1 => ?_)
        obtain ⟨k1, f1⟩ := p1
        have g1 := g0.g9 f1
        refine tl_aload_n rfl rfl ?_
        refine tl_bipush rfl rfl ?_
        refine tl_v1v (c9 := 12) (r_sign l h1 _ k1 (by (try simp only [List.length_append, List.length_cons, List.length_nil]); omega) 115) rfl rfl rfl rfl rfl (Nat.le_of_ble_eq_true rfl) (fun h2 p2 => ?_)
        obtain ⟨k2, f2⟩ := p2
        have g2 := g1.g9 f2
        refine tl_aload_n rfl rfl ?_
        show jT _ _ 32 _ _ _ _
        refine tl_bipush rfl rfl ?_
        refine tl_v1v (c9 := 12) (r_sign l h2 _ k2 (by (try simp only [List.length_append, List.length_cons, List.length_nil]); omega) 97) rfl rfl rfl rfl rfl (Nat.le_of_ble_eq_true rfl) (fun h3 p3 => ?_)
        obtain ⟨k3, f3⟩ := p3
        have g3 := g2.g9 f3
        refine tl_aload_n rfl rfl ?_
        refine tl_bipush rfl rfl ?_
        refine tl_v1v (c9 := 12) (r_sign l h3 _ k3 (by (try simp only [List.length_append, List.length_cons, List.length_nil]); omega) 121) rfl rfl rfl rfl rfl (Nat.le_of_ble_eq_true rfl) (fun h4 p4 => ?_)
        obtain ⟨k4, f4⟩ := p4
        have g4 := g3.g9 f4
        refine tl_aload_n rfl rfl ?_
        refine tl_bipush rfl rfl ?_
        show jT _ _ 46 _ _ _ _
        refine tl_v1v (c9 := 12) (r_sign l h4 _ k4 (by (try simp only [List.length_append, List.length_cons, List.length_nil]); omega) 32) rfl rfl rfl rfl rfl (Nat.le_of_ble_eq_true rfl) (fun h5 p5 => ?_)
        obtain ⟨k5, f5⟩ := p5
        have g5 := g4.g9 f5
        have kx : SR h5 (if s = b then sp9 T ++ sI 12 else T ++ [44]) := by
          rw [if_pos (by omega), show sI 12 = [115, 97, 121, 32] from rfl]
          have e9 := k5
          simp only [List.append_assoc, List.cons_append, List.nil_append] at e9
          exact e9
        have fx : FG h h5 := (((((fr).trans f1).trans f2).trans f3).trans f4).trans f5
        have gx := hg.g9 fx
        refine tl_aload_n rfl rfl ?_
        refine tl_aload_n rfl rfl ?_
        refine tl_getr (c := 12) (k9 := 24) (b := 404) rfl rfl rfl rfl ?_
        refine tl_iload_n rfl rfl ?_
        refine tl_iald (n := 64) rfl rfl rfl (by omega) (by omega) ?_
        rw [Int.toNat_natCast, (gx.2 s (by omega)).2]
        refine tl_v1v (c9 := 12) (r_digits l _ (G 1 s) (by omega) (by omega) _ kx (by have xl2 := xl; unfold exS at xl2; rw [List.length_append] at xl2; omega)) rfl rfl rfl rfl rfl (Nat.le_of_ble_eq_true rfl) (fun h9 p9 => ?_)
        obtain ⟨k9, f9⟩ := p9
        show jT _ _ 59 _ _ _ _
        refine tl_iinc rfl rfl rfl ?_
        refine tl_goto (tgt := 2) rfl rfl ?_
        show jT _ _ 2 _ _ _ _
        -- leaf 1 at 2
        rw [exT_s (by omega)] at eX
        exact ih (s + 1) (exS G b s T) h9 (by omega) ⟨by omega, by omega, k9, by omega, eX, fx.trans f9⟩
      · show jT _ _ 12 _ _ _ _
        refine tl_aload_n rfl rfl ?_
        refine tl_bipush rfl rfl ?_
        refine tl_v1v (c9 := 12) (r_sign l mem T k0 (by omega) 44) rfl rfl rfl rfl rfl (Nat.le_of_ble_eq_true rfl) (fun h1 p1 => ?_)
        obtain ⟨k1, f1⟩ := p1
        have g1 := g0.g9 f1
        have kx : SR h1 (if s = b then sp9 T ++ sI 12 else T ++ [44]) := by rw [if_neg (by omega)]; exact k1
        have fx : FG h h1 := fr.trans f1
        have gx := hg.g9 fx
        refine tl_goto (tgt := 49) rfl rfl ?_
        refine tl_aload_n rfl rfl ?_
        show jT _ _ 50 _ _ _ _
        refine tl_aload_n rfl rfl ?_
        refine tl_getr (c := 12) (k9 := 24) (b := 404) rfl rfl rfl rfl ?_
        refine tl_iload_n rfl rfl ?_
        refine tl_iald (n := 64) rfl rfl rfl (by omega) (by omega) ?_
        rw [Int.toNat_natCast, (gx.2 s (by omega)).2]
        refine tl_v1v (c9 := 12) (r_digits l _ (G 1 s) (by omega) (by omega) _ kx (by have xl2 := xl; unfold exS at xl2; rw [List.length_append] at xl2; omega)) rfl rfl rfl rfl rfl (Nat.le_of_ble_eq_true rfl) (fun h9 p9 => ?_)
        obtain ⟨k9, f9⟩ := p9
        refine tl_iinc rfl rfl rfl ?_
        refine tl_goto (tgt := 2) rfl rfl ?_
        show jT _ _ 2 _ _ _ _
        -- leaf 2 at 2
        rw [exT_s (by omega)] at eX
        exact ih (s + 1) (exS G b s T) h9 (by omega) ⟨by omega, by omega, k9, by omega, eX, fx.trans f9⟩
set_option maxRecDepth 20000 in
set_option maxHeartbeats 1000000 in
theorem r_listExtra (l : Launch) (h : jH) (G : jH) (n : Nat) (hg : OGR h G n) (hv : OGv G n) (b u : Nat) (bu : b ≤ u) (un : u ≤ n) (T : List Int) (kT : SR h T) (bd : T.length + 20 * (u - b) ≤ 1280) : cV l 339 [.ref 388, .int (jI (b : Int)), .int (jI (u : Int))] h (fun h' => SR h' (exT G b (u - b) b T) ∧ FG h h') := by
  refine cV.of rfl rfl ?_
  refine tl_iload_n rfl rfl ?_
  refine tl_istore_n rfl (Nat.le_of_ble_eq_true rfl) rfl ?_
  show jT _ _ 2 _ _ _ _
  -- leaf 0 at 2
  exact r_le_lp l h G n hg hv b u un _ _ (fun mem hj => ⟨rfl, hj⟩) _ b T h (Nat.lt_succ_self _) ⟨by omega, by omega, kT, bd, rfl, FG.rfl9⟩
set_option maxRecDepth 20000 in
set_option maxHeartbeats 1000000 in
theorem r_ls_lp (l : Launch) (h : jH) (S G : jH) (n N : Nat) (lok : LOK S G n N) (z0 : 0 < n → S 4 0 = 0) (hn : h 388 38 = (n : Int)) (kp : PTR h S n) (hg : OGR h G N) (P : Option Value → jH → Prop) (hP : ∀ mem, (SR mem (lsT S G n) ∧ FG h mem) → P none mem) : ∀ (m : Nat) (i : Nat) (mem : jH) (y2 : Option Value), n - i < m → (i ≤ n ∧ SR mem (lsT S G i) ∧ FG h mem) → jT l 340 7 [some (.ref 388), some (.int (jI ((i : Int)))), y2] [] mem P := by
  intro m
  induction m with
  | zero => intro i mem y2 hk; omega
  | succ m ih =>
    intro i mem y2 hk hi
    obtain ⟨i0, k0, fr⟩ := hi
    have e4 : mem 388 38 = (n : Int) := by rw [fr.2 38 (by decide)]; exact hn
    have n99 := lok.2.2.1
    have N64 := lok.2.1
    have hv : OGv G N := ⟨lok.2.1, fun i hi => ⟨⟨(lok.2.2.2 i hi).1, (lok.2.2.2 i hi).2.1⟩, (lok.2.2.2 i hi).2.2⟩⟩
    have g0 : OGR mem G N := hg.g9 fr
    have kpm : PTR mem S n := kp.g9 fr
    have kf : n ≤ i ∨ (i < n ∧ mem 411 i = S 4 i ∧ mem 409 i = S 2 i ∧ mem 410 i = S 3 i ∧ 0 ≤ S 4 i ∧ 0 ≤ S 2 i ∧ 0 ≤ S 3 i ∧ S 4 i + S 2 i + S 3 i ≤ (N : Int) ∧ (lsT S G i).length ≤ 20 * (S 4 i).toNat ∧ (lsC S G i (lsT S G i)).length ≤ (lsT S G i).length + 20 * (S 2 i).toNat) := by
      by_cases c : i < n
      · have x := lok.1 i c
        exact Or.inr ⟨c, (kpm i c).2.2.2, (kpm i c).2.1, (kpm i c).2.2.1, x.1, x.2.1, x.2.2.1, x.2.2.2.1, lsT_len lok z0 i c, lsC_len lok c _⟩
      · exact Or.inl (by omega)
    have hA : S 4 i = (pA9 S i : Int) ∨ n ≤ i := by unfold pA9; omega
    have hB : S 4 i + S 2 i = (pB9 S i : Int) ∨ n ≤ i := by unfold pB9; omega
    have hC : S 4 i + S 2 i + S 3 i = (pC9 S i : Int) ∨ n ≤ i := by unfold pC9; omega
    refine tl_iload_n rfl rfl ?_
    refine tl_aload_n rfl rfl ?_
    refine tl_geti (c := 12) (k9 := 38) rfl rfl rfl ?_
    rw [e4]
    refine tl_icmp_ge (tgt := 59) rfl rfl ⟨by omega, by omega⟩ ⟨by omega, by omega⟩ (fun c1 => ?_) (fun c1 => ?_)
    · skip
      refine tl_ret rfl ?_
      -- leaf 0 at 59
      have e : i = n := by omega
      subst e
      exact hP mem ⟨k0, fr⟩
    · show jT _ _ 15 _ _ _ _
      refine tl_aload_n rfl rfl ?_
      show jT _ _ 16 _ _ _ _
      refine tl_getr (c := 12) (k9 := 42) (b := 411) rfl rfl rfl rfl ?_
      refine tl_iload_n rfl rfl ?_
      refine tl_iald (n := 100) rfl rfl rfl (by omega) (by omega) ?_
      rw [Int.toNat_natCast, show mem 411 i = S 4 i by omega]
      refine tl_aload_n rfl rfl ?_
      refine tl_getr (c := 12) (k9 := 40) (b := 409) rfl rfl rfl rfl ?_
      refine tl_iload_n rfl rfl ?_
      refine tl_iald (n := 100) rfl rfl rfl (by omega) (by omega) ?_
      rw [Int.toNat_natCast, show mem 409 i = S 2 i by omega]
      show jT _ _ 27 _ _ _ _
      refine tl_iadd rfl ?_
      rw [show S 4 i + S 2 i = (pB9 S i : Int) by omega]
      refine tl_istore_n rfl (Nat.le_of_ble_eq_true rfl) rfl ?_
      refine tl_aload_n rfl rfl ?_
      refine tl_aload_n rfl rfl ?_
      refine tl_getr (c := 12) (k9 := 42) (b := 411) rfl rfl rfl rfl ?_
      refine tl_iload_n rfl rfl ?_
      refine tl_iald (n := 100) rfl rfl rfl (by omega) (by omega) ?_
      rw [Int.toNat_natCast, show mem 411 i = (pA9 S i : Int) by omega]
      show jT _ _ 36 _ _ _ _
      refine tl_iload_n rfl rfl ?_
      refine tl_v2v (c9 := 12) (r_listCopied l mem G N g0 hv (pA9 S i) (pB9 S i) (by omega) (by omega) (fun q q1 q2 => (lok.1 i (by omega)).2.2.2.2.2 q (by omega) (by omega)) _ k0 (by unfold pA9 pB9; omega)) rfl rfl rfl rfl rfl (Nat.le_of_ble_eq_true rfl) (fun h1 p1 => ?_)
      obtain ⟨k1, f1⟩ := p1
      have g1 := g0.g9 f1
      change SR h1 (lsC S G i (lsT S G i)) at k1
      refine tl_aload_n rfl rfl ?_
      refine tl_iload_n rfl rfl ?_
      refine tl_iload_n rfl rfl ?_
      refine tl_aload_n rfl rfl ?_
      refine tl_getr (c := 12) (k9 := 41) (b := 410) rfl rfl rfl rfl ?_
      show jT _ _ 47 _ _ _ _
      refine tl_iload_n rfl rfl ?_
      refine tl_iald (n := 100) rfl rfl rfl (by omega) (by omega) ?_
      rw [Int.toNat_natCast, f1.1 410 (by decide) (by decide), show mem 410 i = S 3 i by omega]
      refine tl_iadd rfl ?_
      rw [show (pB9 S i : Int) + S 3 i = (pC9 S i : Int) by omega]
      refine tl_v2v (c9 := 12) (r_listExtra l h1 G N g1 hv (pB9 S i) (pC9 S i) (by omega) (by omega) _ k1 (by unfold pC9 pB9; omega)) rfl rfl rfl rfl rfl (Nat.le_of_ble_eq_true rfl) (fun h2 p2 => ?_)
      obtain ⟨k2, f2⟩ := p2
      refine tl_iinc rfl rfl rfl ?_
      refine tl_goto (tgt := 7) rfl rfl ?_
      show jT _ _ 7 _ _ _ _
      -- leaf 1 at 7
      exact ih (i + 1) h2 _ (by omega) ⟨by omega, k2, (fr.trans f1).trans f2⟩
set_option maxRecDepth 20000 in
set_option maxHeartbeats 1000000 in
theorem r_list (l : Launch) (h : jH) (S G : jH) (n N : Nat) (lok : LOK S G n N) (z0 : 0 < n → S 4 0 = 0) (hn : h 388 38 = (n : Int)) (kp : PTR h S n) (hg : OGR h G N) : cV l 340 [.ref 388] h (fun h' => SR h' (lsT S G n) ∧ FG h h') := by
  have f0 : FG h (hs h 388 76 0) := ⟨fun y y1 _ => hs_O y1, fun q hq => hs_k hq⟩
  refine cV.of rfl rfl ?_
  refine tl_aload_n rfl rfl ?_
  refine tl_iconst rfl ?_
  refine tl_puti (c := 12) (k9 := 76) rfl rfl rfl rfl ?_
  refine tl_iconst rfl ?_
  refine tl_istore_n rfl (Nat.le_of_ble_eq_true rfl) rfl ?_
  show jT _ _ 7 _ _ _ _
  -- leaf 0 at 7
  exact r_ls_lp l (hs h 388 76 0) S G n N lok z0 (by rw [hs_k (by decide)]; exact hn) (kp.g9 f0) (hg.g9 f0) _ (fun mem hj => ⟨rfl, hj.1, f0.trans hj.2⟩) _ 0 _ _ (Nat.lt_succ_self _) ⟨Nat.zero_le _, ⟨by rw [hs_s]; rfl, fun i hi => absurd hi (Nat.not_lt_zero _)⟩, FG.rfl9⟩
theorem FG.rf {h h' : jH} (f : FG h h') : RF h h' := ⟨fun x hx => f.1 x (by omega) (by omega), fun q hq => f.2 q (by omega)⟩
set_option maxRecDepth 20000 in
set_option maxHeartbeats 1000000 in
theorem r_listed (l : Launch) (g h : jH) (t k : Int) (hI0 : IC g h t) (hk : jr k) : cI l 341 [.ref 388, .int (jI k)] h (PRF (Dlisted (Tz h) k)) := by
  have k1 := hk.1
  have k2 := hk.2
  refine cI.of rfl rfl ?_
  refine tl_aload_n rfl rfl ?_
  refine tl_iconst rfl ?_
  refine tl_puti (c := 12) (k9 := 0) rfl rfl rfl rfl ?_
  have hI := hI0.z
  change jT _ _ _ _ _ (Tz h) _
  generalize Tz h = m at hI ⊢
  refine tl_aload_n rfl rfl ?_
  refine tl_iload_n rfl rfl ?_
  refine tl_v1i (c9 := 12) (r_isRead l m (m 390) rfl hI.ok hI.sok k ⟨by omega, by omega⟩) rfl rfl rfl rfl rfl (Nat.le_of_ble_eq_true rfl) (fun z1 h1 p1 => ?_)
  obtain ⟨e1, g1, f1⟩ := p1
  have b1 := zb_b (snd9 (m 390) k)
  subst e1
  show jT _ _ 10 _ _ _ _
  refine tl_if_ne (tgt := 15) rfl rfl ⟨by omega, by omega⟩ (fun c1 => ?_) (fun c1 => ?_)
  · skip
    have es := zb1 c1
    refine tl_aload_n rfl rfl ?_
    refine tl_v0v (c9 := 12) (r_list l h1 (rS (slL (m 390) k)) (rG (slL (m 390) k)) (rNp (slL (m 390) k)) (rNs (slL (m 390) k)).toNat (sd_L hI.sok es).1 (sd_L hI.sok es).2 (g1 es).1.2.2.2.2 (g1 es).2.1 (g1 es).2.2.1) rfl rfl rfl rfl rfl (Nat.le_of_ble_eq_true rfl) (fun h2 p2 => ?_)
    obtain ⟨k2, f2⟩ := p2
    change SR h2 (LTX (slL (m 390) k)) at k2
    have ll := LTX_len hI.sok es
    refine tl_aload_n rfl rfl ?_
    refine tl_geti (c := 12) (k9 := 76) rfl rfl rfl ?_
    rw [k2.1]
    refine tl_iret rfl ?_
    -- leaf 0 at 23
    refine ⟨_, rfl, ?_⟩
    have e : Ald (m 390) k = ((LTX (slL (m 390) k)).length : Int) := by rw [Ald, if_pos es]
    rw [Dlisted, e]
    exact PRF.rd (f1.rf.trans f2.rf)
  · show jT _ _ 13 _ _ _ _
    have es := zb0' c1
    refine tl_iconst rfl ?_
    show jT _ _ 14 _ _ _ _
    refine tl_iret rfl ?_
    -- leaf 1 at 14
    refine ⟨_, rfl, ?_⟩
    have e : Ald (m 390) k = -1 := by rw [Ald, if_neg (by rw [es]; decide)]
    rw [Dlisted, e]
    exact PRF.rd f1.rf
set_option maxRecDepth 20000 in
set_option maxHeartbeats 1000000 in
theorem r_listing (l : Launch) (g h : jH) (t k i : Int) (hI0 : IC g h t) (hk : jr k) (hi : jr i) : cI l 342 [.ref 388, .int (jI k), .int (jI i)] h (PRF (Dlisting (Tz h) k i)) := by
  have k1 := hk.1
  have k2 := hk.2
  have i1 := hi.1
  have i2 := hi.2
  refine cI.of rfl rfl ?_
  refine tl_aload_n rfl rfl ?_
  refine tl_iconst rfl ?_
  refine tl_puti (c := 12) (k9 := 0) rfl rfl rfl rfl ?_
  have hI := hI0.z
  change jT _ _ _ _ _ (Tz h) _
  generalize Tz h = m at hI ⊢
  refine tl_aload_n rfl rfl ?_
  refine tl_iload_n rfl rfl ?_
  refine tl_v1i (c9 := 12) (r_isRead l m (m 390) rfl hI.ok hI.sok k ⟨by omega, by omega⟩) rfl rfl rfl rfl rfl (Nat.le_of_ble_eq_true rfl) (fun z1 h1 p1 => ?_)
  obtain ⟨e1, g1, f1⟩ := p1
  have b1 := zb_b (snd9 (m 390) k)
  subst e1
  show jT _ _ 10 _ _ _ _
  refine tl_if_ne (tgt := 15) rfl rfl ⟨by omega, by omega⟩ (fun c1 => ?_) (fun c1 => ?_)
  · skip
    have es := zb1 c1
    refine tl_aload_n rfl rfl ?_
    refine tl_v0v (c9 := 12) (r_list l h1 (rS (slL (m 390) k)) (rG (slL (m 390) k)) (rNp (slL (m 390) k)) (rNs (slL (m 390) k)).toNat (sd_L hI.sok es).1 (sd_L hI.sok es).2 (g1 es).1.2.2.2.2 (g1 es).2.1 (g1 es).2.2.1) rfl rfl rfl rfl rfl (Nat.le_of_ble_eq_true rfl) (fun h2 p2 => ?_)
    obtain ⟨k2, f2⟩ := p2
    change SR h2 (LTX (slL (m 390) k)) at k2
    have ll := LTX_len hI.sok es
    refine tl_iload_n rfl rfl ?_
    refine tl_i2l rfl ⟨by omega, by omega⟩ ?_
    refine tl_lconst (z := 0) rfl rfl ?_
    refine tl_aload_n rfl rfl ?_
    show jT _ _ 23 _ _ _ _
    refine tl_geti (c := 12) (k9 := 76) rfl rfl rfl ?_
    rw [k2.1]
    refine tl_i2l rfl ⟨by omega, by omega⟩ ?_
    refine tl_lconst (z := 1) rfl rfl ?_
    refine tl_lsub rfl ?_
    refine tl_s3i (c_in l h2 i 0 _ ⟨by omega, by omega⟩ ⟨by decide, by decide⟩ ⟨by omega, by omega⟩) rfl rfl rfl (Nat.le_of_ble_eq_true rfl) (fun z3 h3 p3 => ?_)
    obtain ⟨q3, p3⟩ := p3
    have q3 := q3.symm
    subst q3
    refine tl_if_eq (tgt := 44) rfl rfl ⟨by omega, by omega⟩ (fun c2 => ?_) (fun c2 => ?_)
    · skip
      have ci : ¬ (0 ≤ i ∧ i < ((LTX (slL (m 390) k)).length : Int)) := fun c => by rw [if_pos ⟨c.1, by omega⟩] at p3; omega
      refine tl_iconst rfl ?_
      show jT _ _ 45 _ _ _ _
      refine tl_iret rfl ?_
      -- leaf 0 at 45
      refine ⟨_, rfl, ?_⟩
      first
        | (have e : Alg (m 390) k i = (LTX (slL (m 390) k)).getD i.toNat 0 := by rw [Alg, if_pos ⟨es, ci⟩]
           rw [Dlisting, e]
           exact PRF.rd (f1.rf.trans f2.rf))
        | (have e : Alg (m 390) k i = -1 := by rw [Alg, if_neg (fun q => ci q.2)]
           rw [Dlisting, e]
           exact PRF.rd (f1.rf.trans f2.rf))
    · show jT _ _ 35 _ _ _ _
      have ci : 0 ≤ i ∧ i < ((LTX (slL (m 390) k)).length : Int) := by
        by_cases c : 0 ≤ i ∧ i < ((LTX (slL (m 390) k)).length : Int)
        · exact c
        · rw [if_neg (by omega)] at p3; omega
      refine tl_aload_n rfl rfl ?_
      refine tl_getr (c := 12) (k9 := 75) (b := 428) rfl rfl rfl rfl ?_
      refine tl_iload_n rfl rfl ?_
      refine tl_iald (n := 1600) rfl rfl rfl (by omega) (by omega) ?_
      rw [k2.2 i.toNat (by omega)]
      refine tl_goto (tgt := 45) rfl rfl ?_
      refine tl_iret rfl ?_
      -- leaf 1 at 45
      refine ⟨_, rfl, ?_⟩
      first
        | (have e : Alg (m 390) k i = (LTX (slL (m 390) k)).getD i.toNat 0 := by rw [Alg, if_pos ⟨es, ci⟩]
           rw [Dlisting, e]
           exact PRF.rd (f1.rf.trans f2.rf))
        | (have e : Alg (m 390) k i = -1 := by rw [Alg, if_neg (fun q => ci q.2)]
           rw [Dlisting, e]
           exact PRF.rd (f1.rf.trans f2.rf))
  · show jT _ _ 13 _ _ _ _
    have es := zb0' c1
    show jT _ _ 13 _ _ _ _
    refine tl_iconst rfl ?_
    refine tl_iret rfl ?_
    -- leaf 2 at 14
    refine ⟨_, rfl, ?_⟩
    have e : Alg (m 390) k i = -1 := by rw [Alg, if_neg (by rw [es]; exact fun q => absurd q.1 (by decide))]
    rw [Dlisting, e]
    exact PRF.rd f1.rf
