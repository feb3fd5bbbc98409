/-! listed, listing: of the class -/
theorem rs9 : RowS 375 376 1280 := ⟨rfl, rfl, rfl, rfl⟩
set_option maxRecDepth 20000 in
set_option maxHeartbeats 1000000 in
theorem k_at_lp (l : Launch) (h : jH) (T : List Int) (k : Nat) (hk9 : k < 13) (bd : T.length + (sI k).length ≤ 1280) (P : Option Value → jH → Prop) (hP : ∀ mem, (RL mem 375 376 (T ++ sI k) ∧ ∀ y, y ≠ 375 → y ≠ 376 → mem y = h y) → P none mem) : ∀ (m : Nat) (i : Nat) (mem : jH), (sI k).length - i < m → (i ≤ (sI k).length ∧ RL mem 375 376 (T ++ slc (sI k) 0 i) ∧ ∀ y, y ≠ 375 → y ≠ 376 → mem y = h y) → jT l 30 2 [some (.ref 374), some (.ref (2000000 + k)), some (.int (jI ((i : Int))))] [] mem P := by
  intro m
  induction m with
  | zero => intro i mem hk; omega
  | succ m ih =>
    intro i mem hk hi
    obtain ⟨i0, i1, fr⟩ := hi
    refine tl_iload_n rfl rfl ?_
    refine tl_aload_n rfl rfl ?_
    refine tl_slen rfl hk9 rfl (Nat.le_of_ble_eq_true rfl) ?_
    refine tl_icmp_ge (tgt := 28) rfl rfl ⟨by omega, by omega⟩ ⟨by omega, by omega⟩ (fun c1 => ?_) (fun c1 => ?_)
    · skip
      refine tl_ret rfl ?_
      -- leaf 0 at 28
      have e : i = (sI k).length := by omega
      rw [e, slc_all] at i1
      exact hP mem ⟨i1, fr⟩
    · show jT _ _ 10 _ _ _ _
      refine tl_aload_n rfl rfl ?_
      show jT _ _ 11 _ _ _ _
      refine tl_getr (c := 2) (k9 := 0) (b := 375) rfl rfl rfl rfl ?_
      refine tl_aload_n rfl rfl ?_
      refine tl_iload_n rfl rfl ?_
      refine tl_schr rfl hk9 rfl (by omega) (Nat.le_of_ble_eq_true rfl) ?_
      refine tl_v1v (c9 := 8) (c_addL l rs9 mem _ i1 (by rw [List.length_append, slc_len]; omega) _) rfl rfl rfl rfl rfl (Nat.le_of_ble_eq_true rfl) (fun h2 p2 => ?_)
      obtain ⟨k2, f2⟩ := p2
      refine tl_iinc rfl rfl rfl ?_
      refine tl_goto (tgt := 2) rfl rfl ?_
      show jT _ _ 2 _ _ _ _
      -- leaf 1 at 2
      refine ih (i + 1) h2 (by omega) ⟨by omega, ?_, fun y y1 y2 => (f2 y y1 y2).trans (fr y y1 y2)⟩
      rw [slc, ← List.append_assoc, Nat.zero_add]; exact k2
set_option maxRecDepth 20000 in
set_option maxHeartbeats 1000000 in
theorem k_addText (l : Launch) (h : jH) (k : Nat) (hk9 : k < 13) (T : List Int) (kT : RL h 375 376 T) (bd : T.length + (sI k).length ≤ 1280) : cV l 30 [.ref 374, .ref (2000000 + k)] h (fun h' => RL h' 375 376 (T ++ sI k) ∧ ∀ y, y ≠ 375 → y ≠ 376 → h' y = h y) := by
  refine cV.of rfl rfl ?_
  refine tl_iconst rfl ?_
  refine tl_istore_n rfl (Nat.le_of_ble_eq_true rfl) rfl ?_
  show jT _ _ 2 _ _ _ _
  -- leaf 0 at 2
  exact k_at_lp l h T k hk9 bd _ (fun mem hj => ⟨rfl, hj⟩) _ 0 h (Nat.lt_succ_self _) ⟨Nat.zero_le _, by rw [slc, List.append_nil]; exact kT, fun _ _ _ => rfl⟩
set_option maxRecDepth 20000 in
set_option maxHeartbeats 1000000 in
theorem k_addDig (l : Launch) (h : jH) (v : Int) (v0 : 0 ≤ v) (v1 : v ≤ 999) (T : List Int) (kT : RL h 375 376 T) (bd : T.length + (dg v).length ≤ 1280) : cV l 31 [.ref 374, .int (jI v)] h (fun h' => RL h' 375 376 (T ++ dg v) ∧ ∀ y, y ≠ 375 → y ≠ 376 → h' y = h y) := by
  have d3 : 100 ≤ v → (dg v).length = 3 := fun c => by rw [dg_3 c]; rfl
  have d2 : ¬ 100 ≤ v → 10 ≤ v → (dg v).length = 2 := fun c c2 => by rw [dg_2 c c2]; rfl
  have d1 := (dg_len v).1
  refine cV.of rfl rfl ?_
  refine tl_iload_n rfl rfl ?_
  refine tl_bipush rfl rfl ?_
  refine tl_icmp_lt (tgt := 23) rfl rfl ⟨by omega, by omega⟩ ⟨by omega, by omega⟩ (fun c1 => ?_) (fun c1 => ?_)
  · skip
    refine tl_iload_n rfl rfl ?_
    refine tl_bipush rfl rfl ?_
    refine tl_icmp_lt (tgt := 46) rfl rfl ⟨by omega, by omega⟩ ⟨by omega, by omega⟩ (fun c2 => ?_) (fun c2 => ?_)
    · skip
      show jT _ _ 46 _ _ _ _
      refine tl_aload_n rfl rfl ?_
      refine tl_getr (c := 2) (k9 := 0) (b := 375) rfl rfl rfl rfl ?_
      refine tl_bipush rfl rfl ?_
      refine tl_iload_n rfl rfl ?_
      refine tl_bipush rfl rfl ?_
      refine tl_irem rfl (by omega) (by omega) (by omega) (by omega) ?_
      refine tl_iadd rfl ?_
      show jT _ _ 57 _ _ _ _
      refine tl_v1v (c9 := 8) (c_addL l rs9 _ _ (by first | exact k2 | exact k1 | exact kT) (by (try simp only [List.length_append, List.length_cons, List.length_nil]); omega) _) rfl rfl rfl rfl rfl (Nat.le_of_ble_eq_true rfl) (fun h3 p3 => ?_)
      obtain ⟨k3, f3⟩ := p3
      refine tl_ret rfl ?_
      -- leaf 0 at 60
      first
        | (exfalso; omega)
        | (refine ⟨rfl, ?_, fun y y1 y2 => by rw [f3 y y1 y2, f2 y y1 y2, f1 y y1 y2]⟩
           rw [dg_3 (by omega)]
           have e9 := k3
           (try simp only [List.append_assoc, List.cons_append, List.nil_append] at e9)
           exact e9)
        | (refine ⟨rfl, ?_, fun y y1 y2 => by rw [f3 y y1 y2, f2 y y1 y2]⟩
           rw [dg_2 (by omega) (by omega)]
           have e9 := k3
           (try simp only [List.append_assoc, List.cons_append, List.nil_append] at e9)
           exact e9)
        | (refine ⟨rfl, ?_, fun y y1 y2 => by rw [f3 y y1 y2]⟩
           rw [dg_1 (by omega)]
           have e9 := k3
           (try simp only [List.append_assoc, List.cons_append, List.nil_append] at e9)
           exact e9)
    · show jT _ _ 29 _ _ _ _
      refine tl_aload_n rfl rfl ?_
      refine tl_getr (c := 2) (k9 := 0) (b := 375) rfl rfl rfl rfl ?_
      refine tl_bipush rfl rfl ?_
      refine tl_iload_n rfl rfl ?_
      refine tl_bipush rfl rfl ?_
      show jT _ _ 38 _ _ _ _
      refine tl_idiv rfl (by omega) (by omega) (by omega) (by omega) ?_
      refine tl_bipush rfl rfl ?_
      refine tl_irem rfl (by omega) (by omega) (by omega) (by omega) ?_
      refine tl_iadd rfl ?_
      refine tl_v1v (c9 := 8) (c_addL l rs9 _ _ (by first | exact k1 | exact kT) (by (try simp only [List.length_append, List.length_cons, List.length_nil]); omega) _) rfl rfl rfl rfl rfl (Nat.le_of_ble_eq_true rfl) (fun h2 p2 => ?_)
      obtain ⟨k2, f2⟩ := p2
      refine tl_aload_n rfl rfl ?_
      refine tl_getr (c := 2) (k9 := 0) (b := 375) rfl rfl rfl rfl ?_
      show jT _ _ 50 _ _ _ _
      refine tl_bipush rfl rfl ?_
      refine tl_iload_n rfl rfl ?_
      refine tl_bipush rfl rfl ?_
      refine tl_irem rfl (by omega) (by omega) (by omega) (by omega) ?_
      refine tl_iadd rfl ?_
      refine tl_v1v (c9 := 8) (c_addL l rs9 _ _ (by first | exact k2 | exact k1 | exact kT) (by (try simp only [List.length_append, List.length_cons, List.length_nil]); omega) _) rfl rfl rfl rfl rfl (Nat.le_of_ble_eq_true rfl) (fun h3 p3 => ?_)
      obtain ⟨k3, f3⟩ := p3
      refine tl_ret rfl ?_
      -- leaf 1 at 60
      first
        | (exfalso; omega)
        | (refine ⟨rfl, ?_, fun y y1 y2 => by rw [f3 y y1 y2, f2 y y1 y2, f1 y y1 y2]⟩
           rw [dg_3 (by omega)]
           have e9 := k3
           (try simp only [List.append_assoc, List.cons_append, List.nil_append] at e9)
           exact e9)
        | (refine ⟨rfl, ?_, fun y y1 y2 => by rw [f3 y y1 y2, f2 y y1 y2]⟩
           rw [dg_2 (by omega) (by omega)]
           have e9 := k3
           (try simp only [List.append_assoc, List.cons_append, List.nil_append] at e9)
           exact e9)
        | (refine ⟨rfl, ?_, fun y y1 y2 => by rw [f3 y y1 y2]⟩
           rw [dg_1 (by omega)]
           have e9 := k3
           (try simp only [List.append_assoc, List.cons_append, List.nil_append] at e9)
           exact e9)
  · show jT _ _ 6 _ _ _ _
    show jT _ _ 6 _ _ _ _
    refine tl_aload_n rfl rfl ?_
    refine tl_getr (c := 2) (k9 := 0) (b := 375) rfl rfl rfl rfl ?_
    refine tl_bipush rfl rfl ?_
    refine tl_iload_n rfl rfl ?_
    refine tl_bipush rfl rfl ?_
    refine tl_idiv rfl (by omega) (by omega) (by omega) (by omega) ?_
    refine tl_bipush rfl rfl ?_
    show jT _ _ 18 _ _ _ _
    refine tl_irem rfl (by omega) (by omega) (by omega) (by omega) ?_
    refine tl_iadd rfl ?_
    refine tl_v1v (c9 := 8) (c_addL l rs9 _ _ (by first | exact kT) (by (try simp only [List.length_append, List.length_cons, List.length_nil]); omega) _) rfl rfl rfl rfl rfl (Nat.le_of_ble_eq_true rfl) (fun h1 p1 => ?_)
    obtain ⟨k1, f1⟩ := p1
    refine tl_iload_n rfl rfl ?_
    refine tl_bipush rfl rfl ?_
    refine tl_icmp_lt (tgt := 46) rfl rfl ⟨by omega, by omega⟩ ⟨by omega, by omega⟩ (fun c3 => ?_) (fun c3 => ?_)
    · skip
      refine tl_aload_n rfl rfl ?_
      show jT _ _ 47 _ _ _ _
      refine tl_getr (c := 2) (k9 := 0) (b := 375) rfl rfl rfl rfl ?_
      refine tl_bipush rfl rfl ?_
      refine tl_iload_n rfl rfl ?_
      refine tl_bipush rfl rfl ?_
      refine tl_irem rfl (by omega) (by omega) (by omega) (by omega) ?_
      refine tl_iadd rfl ?_
      refine tl_v1v (c9 := 8) (c_addL l rs9 _ _ (by first | exact k2 | exact k1 | exact kT) (by (try simp only [List.length_append, List.length_cons, List.length_nil]); omega) _) rfl rfl rfl rfl rfl (Nat.le_of_ble_eq_true rfl) (fun h3 p3 => ?_)
      obtain ⟨k3, f3⟩ := p3
      show jT _ _ 60 _ _ _ _
      refine tl_ret rfl ?_
      -- leaf 2 at 60
      first
        | (exfalso; omega)
        | (refine ⟨rfl, ?_, fun y y1 y2 => by rw [f3 y y1 y2, f2 y y1 y2, f1 y y1 y2]⟩
           rw [dg_3 (by omega)]
           have e9 := k3
           (try simp only [List.append_assoc, List.cons_append, List.nil_append] at e9)
           exact e9)
        | (refine ⟨rfl, ?_, fun y y1 y2 => by rw [f3 y y1 y2, f2 y y1 y2]⟩
           rw [dg_2 (by omega) (by omega)]
           have e9 := k3
           (try simp only [List.append_assoc, List.cons_append, List.nil_append] at e9)
           exact e9)
        | (refine ⟨rfl, ?_, fun y y1 y2 => by rw [f3 y y1 y2]⟩
           rw [dg_1 (by omega)]
           have e9 := k3
           (try simp only [List.append_assoc, List.cons_append, List.nil_append] at e9)
           exact e9)
    · show jT _ _ 29 _ _ _ _
      refine tl_aload_n rfl rfl ?_
      refine tl_getr (c := 2) (k9 := 0) (b := 375) rfl rfl rfl rfl ?_
      refine tl_bipush rfl rfl ?_
      refine tl_iload_n rfl rfl ?_
      refine tl_bipush rfl rfl ?_
      refine tl_idiv rfl (by omega) (by omega) (by omega) (by omega) ?_
      show jT _ _ 39 _ _ _ _
      refine tl_bipush rfl rfl ?_
      refine tl_irem rfl (by omega) (by omega) (by omega) (by omega) ?_
      refine tl_iadd rfl ?_
      refine tl_v1v (c9 := 8) (c_addL l rs9 _ _ (by first | exact k1 | exact kT) (by (try simp only [List.length_append, List.length_cons, List.length_nil]); omega) _) rfl rfl rfl rfl rfl (Nat.le_of_ble_eq_true rfl) (fun h2 p2 => ?_)
      obtain ⟨k2, f2⟩ := p2
      refine tl_aload_n rfl rfl ?_
      refine tl_getr (c := 2) (k9 := 0) (b := 375) rfl rfl rfl rfl ?_
      refine tl_bipush rfl rfl ?_
      show jT _ _ 52 _ _ _ _
      refine tl_iload_n rfl rfl ?_
      refine tl_bipush rfl rfl ?_
      refine tl_irem rfl (by omega) (by omega) (by omega) (by omega) ?_
      refine tl_iadd rfl ?_
      refine tl_v1v (c9 := 8) (c_addL l rs9 _ _ (by first | exact k2 | exact k1 | exact kT) (by (try simp only [List.length_append, List.length_cons, List.length_nil]); omega) _) rfl rfl rfl rfl rfl (Nat.le_of_ble_eq_true rfl) (fun h3 p3 => ?_)
      obtain ⟨k3, f3⟩ := p3
      refine tl_ret rfl ?_
      -- leaf 3 at 60
      first
        | (exfalso; omega)
        | (refine ⟨rfl, ?_, fun y y1 y2 => by rw [f3 y y1 y2, f2 y y1 y2, f1 y y1 y2]⟩
           rw [dg_3 (by omega)]
           have e9 := k3
           (try simp only [List.append_assoc, List.cons_append, List.nil_append] at e9)
           exact e9)
        | (refine ⟨rfl, ?_, fun y y1 y2 => by rw [f3 y y1 y2, f2 y y1 y2]⟩
           rw [dg_2 (by omega) (by omega)]
           have e9 := k3
           (try simp only [List.append_assoc, List.cons_append, List.nil_append] at e9)
           exact e9)
        | (refine ⟨rfl, ?_, fun y y1 y2 => by rw [f3 y y1 y2]⟩
           rw [dg_1 (by omega)]
           have e9 := k3
           (try simp only [List.append_assoc, List.cons_append, List.nil_append] at e9)
           exact e9)
set_option maxRecDepth 20000 in
set_option maxHeartbeats 1000000 in
theorem k_startStep (l : Launch) (h : jH) (k : Nat) (hk9 : k < 13) (T : List Int) (kT : RL h 375 376 T) (bd : (sp9 T).length + (sI k).length ≤ 1280) : cV l 29 [.ref 374, .ref (2000000 + k)] h (fun h' => RL h' 375 376 (sp9 T ++ sI k) ∧ ∀ y, y ≠ 375 → y ≠ 376 → h' y = h y) := by
  have sl9 : T.length ≠ 0 → (sp9 T).length = T.length + 1 := fun c => by rw [sp9_1 c, List.length_append]; rfl
  have sl0 := sp9_len T
  refine cV.of rfl rfl ?_
  refine tl_aload_n rfl rfl ?_
  refine tl_getr (c := 2) (k9 := 0) (b := 375) rfl rfl rfl rfl ?_
  refine tl_geti (c := 8) (k9 := 1) rfl rfl rfl ?_
  rw [kT.1]
  refine tl_if_le (tgt := 19) rfl rfl ⟨by omega, by omega⟩ (fun c1 => ?_) (fun c1 => ?_)
  · skip
    refine tl_aload_n rfl rfl ?_
    refine tl_aload_n rfl rfl ?_
    show jT _ _ 21 _ _ _ _
    refine tl_v1v (c9 := 2) (k_addText l _ k hk9 (sp9 T) (by first | exact k1 | (rw [sp9_0 (by omega)]; exact kT)) bd) rfl rfl rfl rfl rfl (Nat.le_of_ble_eq_true rfl) (fun h2 p2 => ?_)
    obtain ⟨k2, f2⟩ := p2
    refine tl_ret rfl ?_
    -- leaf 0 at 24
    refine ⟨rfl, k2, fun y y1 y2 => ?_⟩
    first
      | rw [f2 y y1 y2, f1 y y1 y2]
      | exact f2 y y1 y2
  · show jT _ _ 10 _ _ _ _
    refine tl_aload_n rfl rfl ?_
    refine tl_getr (c := 2) (k9 := 0) (b := 375) rfl rfl rfl rfl ?_
    refine tl_bipush rfl rfl ?_
    refine tl_v1v (c9 := 8) (c_addL l rs9 h T kT (by omega) 59) rfl rfl rfl rfl rfl (Nat.le_of_ble_eq_true rfl) (fun h1 p1 => ?_)
    obtain ⟨k1, f1⟩ := p1
    rw [← sp9_1 (by omega)] at k1
    refine tl_aload_n rfl rfl ?_
    show jT _ _ 20 _ _ _ _
    refine tl_aload_n rfl rfl ?_
    refine tl_v1v (c9 := 2) (k_addText l _ k hk9 (sp9 T) (by first | exact k1 | (rw [sp9_0 (by omega)]; exact kT)) bd) rfl rfl rfl rfl rfl (Nat.le_of_ble_eq_true rfl) (fun h2 p2 => ?_)
    obtain ⟨k2, f2⟩ := p2
    refine tl_ret rfl ?_
    -- leaf 1 at 24
    refine ⟨rfl, k2, fun y y1 y2 => ?_⟩
    first
      | rw [f2 y y1 y2, f1 y y1 y2]
      | exact f2 y y1 y2
set_option maxRecDepth 20000 in
set_option maxHeartbeats 1000000 in
theorem k_lc_lp (l : Launch) (h : jH) (G : jH) (n : Nat) (hg : OG h 345 346 347 G n) (hv : OGv G n) (u : Nat) (un : u ≤ n) (f0 : Nat) (hp : ∀ q, f0 ≤ q → q < u → 0 ≤ G 0 q) (X : List Int) (fr9 : Int) (P : Option Value → jH → Prop) (hP : ∀ mem, (RL mem 375 376 X ∧ ∀ y, y ≠ 375 → y ≠ 376 → mem y = h y) → P none mem) : ∀ (m : Nat) (f : Nat) (s : Nat) (T : List Int) (mem : jH), u + 1 - s < m → (f < s ∧ s ≤ u + 1 ∧ f0 ≤ f ∧ RL mem 375 376 T ∧ T.length + 20 * u ≤ 1280 + 20 * f ∧ clT G u (u + 1 - s) f s T = X ∧ ∀ y, y ≠ 375 → y ≠ 376 → mem y = h y) → jT l 27 8 [some (.ref 374), some (.ref 345), some (.int (jI (fr9))), some (.int (jI ((u : Int)))), some (.int (jI ((f : Int)))), some (.int (jI ((s : Int))))] [] mem P := by
  intro m
  induction m with
  | zero => intro f s T mem hk; omega
  | succ m ih =>
    intro f s T mem hk hi
    obtain ⟨i0, i1, i2, k0, bd, eX, fr⟩ := hi
    have g0 : OG mem 345 346 347 G n := hg.of (fr 345 (by decide) (by decide)) (fr 346 (by decide) (by decide)) (fr 347 (by decide) (by decide))
    have n64 := hv.1
    have vs : u ≤ s ∨ (s < u ∧ byt (G 1 s)) := by
      by_cases c : s < u
      · exact Or.inr ⟨c, (hv.2 s (by omega)).2⟩
      · exact Or.inl (by omega)
    have vf : u < s ∨ (s ≤ u ∧ (0 ≤ G 0 f ∧ G 0 f ≤ 63) ∧ byt (G 1 f)) := by
      by_cases c : s ≤ u
      · exact Or.inr ⟨c, ⟨hp f i2 (by omega), (hv.2 f (by omega)).1.2⟩, (hv.2 f (by omega)).2⟩
      · exact Or.inl (by omega)
    unfold byt at vs vf
    have s9 := sp9_len T
    have dn := dg_len ((s : Int) - (f : Int))
    have dn4 := dn.2.2.2
    have dp := dg_len (G 0 f)
    have dp3 := dp.2.2.1
    have dv := dg_len (G 1 f)
    refine tl_iload rfl rfl ?_
    refine tl_iload_n rfl rfl ?_
    refine tl_icmp_gt (tgt := 101) rfl rfl ⟨by omega, by omega⟩ ⟨by omega, by omega⟩ (fun c1 => ?_) (fun c1 => ?_)
    · skip
      refine tl_ret rfl ?_
      -- leaf 0 at 101
      rw [clT_0 (by omega)] at eX
      subst eX
      exact hP mem ⟨k0, fr⟩
    · show jT _ _ 14 _ _ _ _
      refine tl_iload rfl rfl ?_
      refine tl_iload_n rfl rfl ?_
      show jT _ _ 17 _ _ _ _
      refine tl_icmp_eq (tgt := 35) rfl rfl ⟨by omega, by omega⟩ ⟨by omega, by omega⟩ (fun c2 => ?_) (fun c2 => ?_)
      · skip
        refine tl_aload_n rfl rfl ?_
        refine tl_ldcs (q := 9) rfl ?_
        refine tl_v1v (c9 := 2) (k_startStep l mem 9 (by decide) T k0 (by simp only [tk5, List.length_append, show (sI 9).length = 5 from rfl, show (sI 10).length = 4 from rfl, show (sI 11).length = 4 from rfl]; omega)) rfl rfl rfl rfl rfl (Nat.le_of_ble_eq_true rfl) (fun h1 p1 => ?_)
        obtain ⟨k1, f1⟩ := p1
        have g1 : OG h1 345 346 347 G n := g0.of (f1 345 (by decide) (by decide)) (f1 346 (by decide) (by decide)) (f1 347 (by decide) (by decide))
        refine tl_aload_n rfl rfl ?_
        refine tl_iload rfl rfl ?_
        refine tl_iload rfl rfl ?_
        show jT _ _ 46 _ _ _ _
        refine tl_isub rfl ?_
        refine tl_v1v (c9 := 2) (k_addDig l h1 ((s : Int) - (f : Int)) (by omega) (by omega) _ k1 (by simp only [tk5, List.length_append, show (sI 9).length = 5 from rfl, show (sI 10).length = 4 from rfl, show (sI 11).length = 4 from rfl]; omega)) rfl rfl rfl rfl rfl (Nat.le_of_ble_eq_true rfl) (fun h2 p2 => ?_)
        obtain ⟨k2, f2⟩ := p2
        have g2 : OG h2 345 346 347 G n := g1.of (f2 345 (by decide) (by decide)) (f2 346 (by decide) (by decide)) (f2 347 (by decide) (by decide))
        refine tl_aload_n rfl rfl ?_
        refine tl_ldcs (q := 10) rfl ?_
        refine tl_v1v (c9 := 2) (k_addText l h2 10 (by decide) _ k2 (by simp only [tk5, List.length_append, show (sI 9).length = 5 from rfl, show (sI 10).length = 4 from rfl, show (sI 11).length = 4 from rfl]; omega)) rfl rfl rfl rfl rfl (Nat.le_of_ble_eq_true rfl) (fun h3 p3 => ?_)
        obtain ⟨k3, f3⟩ := p3
        have g3 : OG h3 345 346 347 G n := g2.of (f3 345 (by decide) (by decide)) (f3 346 (by decide) (by decide)) (f3 347 (by decide) (by decide))
        refine tl_aload_n rfl rfl ?_
        refine tl_aload_n rfl rfl ?_
        show jT _ _ 58 _ _ _ _
        refine tl_iload rfl rfl ?_
        refine tl_v1i (c9 := 3) (k_plA l Or345 _ G n g3 hv f (by omega)) rfl rfl rfl rfl rfl (Nat.le_of_ble_eq_true rfl) (fun zc hc pc => ?_)
        obtain ⟨qc, rfl⟩ := pc
        have qc := qc.symm
        subst qc
        refine tl_v1v (c9 := 2) (k_addDig l h3 (G 0 f) (by omega) (by omega) _ k3 (by simp only [tk5, List.length_append, show (sI 9).length = 5 from rfl, show (sI 10).length = 4 from rfl, show (sI 11).length = 4 from rfl]; omega)) rfl rfl rfl rfl rfl (Nat.le_of_ble_eq_true rfl) (fun h4 p4 => ?_)
        obtain ⟨k4, f4⟩ := p4
        have g4 : OG h4 345 346 347 G n := g3.of (f4 345 (by decide) (by decide)) (f4 346 (by decide) (by decide)) (f4 347 (by decide) (by decide))
        refine tl_aload_n rfl rfl ?_
        refine tl_iload rfl rfl ?_
        refine tl_v1i (c9 := 3) (k_vaA l Or345 _ G n g4 hv f (by omega)) rfl rfl rfl rfl rfl (Nat.le_of_ble_eq_true rfl) (fun zd hd pd => ?_)
        obtain ⟨qd, rfl⟩ := pd
        have qd := qd.symm
        subst qd
        refine tl_if_eq (tgt := 91) rfl rfl ⟨by omega, by omega⟩ (fun c3 => ?_) (fun c3 => ?_)
        · skip
          show jT _ _ 91 _ _ _ _
          refine tl_iload rfl rfl ?_
          refine tl_istore rfl (Nat.le_of_ble_eq_true rfl) rfl ?_
          refine tl_iinc rfl rfl rfl ?_
          refine tl_goto (tgt := 8) rfl rfl ?_
          show jT _ _ 8 _ _ _ _
          -- leaf 1 at 8
          first
            | (exfalso; omega)
            | (rw [clT_a (by omega) (by omega)] at eX
               have tl := tkS_len T (n := (s : Int) - (f : Int)) (p := G 0 f) (v := G 1 f) (by omega) (by omega) (by omega)
               first
                 | (refine ih s (s + 1) _ h6 (by omega) ⟨by omega, by omega, by omega, (by have e6 := k6; rw [show tkS T ((s : Int) - (f : Int)) (G 0 f) (G 1 f) = (tk5 T ((s : Int) - (f : Int)) (G 0 f) ++ sI 11) ++ dg (G 1 f) from by rw [tkS, if_neg (by omega)]]; exact e6), by omega, eX, (fun y y1 y2 => by rw [f6 y y1 y2, f5 y y1 y2, f4 y y1 y2, f3 y y1 y2, f2 y y1 y2, f1 y y1 y2]; exact fr y y1 y2)⟩)
                 | (refine ih s (s + 1) _ h4 (by omega) ⟨by omega, by omega, by omega, (by have e4 := k4; rw [show tkS T ((s : Int) - (f : Int)) (G 0 f) (G 1 f) = tk5 T ((s : Int) - (f : Int)) (G 0 f) from by rw [tkS, if_pos (by omega)]]; exact e4), by omega, eX, (fun y y1 y2 => by rw [f4 y y1 y2, f3 y y1 y2, f2 y y1 y2, f1 y y1 y2]; exact fr y y1 y2)⟩))
            | (rw [clT_b (by omega) (by omega)] at eX
               exact ih f (s + 1) T mem (by omega) ⟨by omega, by omega, by omega, k0, by omega, eX, fr⟩)
        · show jT _ _ 75 _ _ _ _
          refine tl_aload_n rfl rfl ?_
          refine tl_ldcs (q := 11) rfl ?_
          refine tl_v1v (c9 := 2) (k_addText l h4 11 (by decide) _ k4 (by simp only [tk5, List.length_append, show (sI 9).length = 5 from rfl, show (sI 10).length = 4 from rfl, show (sI 11).length = 4 from rfl]; omega)) rfl rfl rfl rfl rfl (Nat.le_of_ble_eq_true rfl) (fun h5 p5 => ?_)
          obtain ⟨k5, f5⟩ := p5
          have g5 : OG h5 345 346 347 G n := g4.of (f5 345 (by decide) (by decide)) (f5 346 (by decide) (by decide)) (f5 347 (by decide) (by decide))
          show jT _ _ 81 _ _ _ _
          refine tl_aload_n rfl rfl ?_
          refine tl_aload_n rfl rfl ?_
          refine tl_iload rfl rfl ?_
          refine tl_v1i (c9 := 3) (k_vaA l Or345 _ G n g5 hv f (by omega)) rfl rfl rfl rfl rfl (Nat.le_of_ble_eq_true rfl) (fun ze he pe => ?_)
          obtain ⟨qe, rfl⟩ := pe
          have qe := qe.symm
          subst qe
          refine tl_v1v (c9 := 2) (k_addDig l h5 (G 1 f) (by omega) (by omega) _ k5 (by simp only [tk5, List.length_append, show (sI 9).length = 5 from rfl, show (sI 10).length = 4 from rfl, show (sI 11).length = 4 from rfl]; omega)) rfl rfl rfl rfl rfl (Nat.le_of_ble_eq_true rfl) (fun h6 p6 => ?_)
          obtain ⟨k6, f6⟩ := p6
          have g6 : OG h6 345 346 347 G n := g5.of (f6 345 (by decide) (by decide)) (f6 346 (by decide) (by decide)) (f6 347 (by decide) (by decide))
          refine tl_iload rfl rfl ?_
          refine tl_istore rfl (Nat.le_of_ble_eq_true rfl) rfl ?_
          show jT _ _ 95 _ _ _ _
          refine tl_iinc rfl rfl rfl ?_
          refine tl_goto (tgt := 8) rfl rfl ?_
          show jT _ _ 8 _ _ _ _
          -- leaf 2 at 8
          first
            | (exfalso; omega)
            | (rw [clT_a (by omega) (by omega)] at eX
               have tl := tkS_len T (n := (s : Int) - (f : Int)) (p := G 0 f) (v := G 1 f) (by omega) (by omega) (by omega)
               first
                 | (refine ih s (s + 1) _ h6 (by omega) ⟨by omega, by omega, by omega, (by have e6 := k6; rw [show tkS T ((s : Int) - (f : Int)) (G 0 f) (G 1 f) = (tk5 T ((s : Int) - (f : Int)) (G 0 f) ++ sI 11) ++ dg (G 1 f) from by rw [tkS, if_neg (by omega)]]; exact e6), by omega, eX, (fun y y1 y2 => by rw [f6 y y1 y2, f5 y y1 y2, f4 y y1 y2, f3 y y1 y2, f2 y y1 y2, f1 y y1 y2]; exact fr y y1 y2)⟩)
                 | (refine ih s (s + 1) _ h4 (by omega) ⟨by omega, by omega, by omega, (by have e4 := k4; rw [show tkS T ((s : Int) - (f : Int)) (G 0 f) (G 1 f) = tk5 T ((s : Int) - (f : Int)) (G 0 f) from by rw [tkS, if_pos (by omega)]]; exact e4), by omega, eX, (fun y y1 y2 => by rw [f4 y y1 y2, f3 y y1 y2, f2 y y1 y2, f1 y y1 y2]; exact fr y y1 y2)⟩))
            | (rw [clT_b (by omega) (by omega)] at eX
               exact ih f (s + 1) T mem (by omega) ⟨by omega, by omega, by omega, k0, by omega, eX, fr⟩)
      · show jT _ _ 20 _ _ _ _
        refine tl_aload_n rfl rfl ?_
        refine tl_iload rfl rfl ?_
        refine tl_v1i (c9 := 3) (k_vaA l Or345 _ G n g0 hv s (by omega)) rfl rfl rfl rfl rfl (Nat.le_of_ble_eq_true rfl) (fun za ha pa => ?_)
        obtain ⟨qa, rfl⟩ := pa
        have qa := qa.symm
        subst qa
        refine tl_aload_n rfl rfl ?_
        refine tl_iload rfl rfl ?_
        show jT _ _ 29 _ _ _ _
        refine tl_v1i (c9 := 3) (k_vaA l Or345 _ G n g0 hv f (by omega)) rfl rfl rfl rfl rfl (Nat.le_of_ble_eq_true rfl) (fun zb hb pb => ?_)
        obtain ⟨qb, rfl⟩ := pb
        have qb := qb.symm
        subst qb
        refine tl_icmp_eq (tgt := 95) rfl rfl ⟨by omega, by omega⟩ ⟨by omega, by omega⟩ (fun c4 => ?_) (fun c4 => ?_)
        · skip
          refine tl_iinc rfl rfl rfl ?_
          refine tl_goto (tgt := 8) rfl rfl ?_
          show jT _ _ 8 _ _ _ _
          -- leaf 3 at 8
          first
            | (exfalso; omega)
            | (rw [clT_a (by omega) (by omega)] at eX
               have tl := tkS_len T (n := (s : Int) - (f : Int)) (p := G 0 f) (v := G 1 f) (by omega) (by omega) (by omega)
               first
                 | (refine ih s (s + 1) _ h6 (by omega) ⟨by omega, by omega, by omega, (by have e6 := k6; rw [show tkS T ((s : Int) - (f : Int)) (G 0 f) (G 1 f) = (tk5 T ((s : Int) - (f : Int)) (G 0 f) ++ sI 11) ++ dg (G 1 f) from by rw [tkS, if_neg (by omega)]]; exact e6), by omega, eX, (fun y y1 y2 => by rw [f6 y y1 y2, f5 y y1 y2, f4 y y1 y2, f3 y y1 y2, f2 y y1 y2, f1 y y1 y2]; exact fr y y1 y2)⟩)
                 | (refine ih s (s + 1) _ h4 (by omega) ⟨by omega, by omega, by omega, (by have e4 := k4; rw [show tkS T ((s : Int) - (f : Int)) (G 0 f) (G 1 f) = tk5 T ((s : Int) - (f : Int)) (G 0 f) from by rw [tkS, if_pos (by omega)]]; exact e4), by omega, eX, (fun y y1 y2 => by rw [f4 y y1 y2, f3 y y1 y2, f2 y y1 y2, f1 y y1 y2]; exact fr y y1 y2)⟩))
            | (rw [clT_b (by omega) (by omega)] at eX
               exact ih f (s + 1) T mem (by omega) ⟨by omega, by omega, by omega, k0, by omega, eX, fr⟩)
        · show jT _ _ 35 _ _ _ _
          refine tl_aload_n rfl rfl ?_
          refine tl_ldcs (q := 9) rfl ?_
          refine tl_v1v (c9 := 2) (k_startStep l mem 9 (by decide) T k0 (by simp only [tk5, List.length_append, show (sI 9).length = 5 from rfl, show (sI 10).length = 4 from rfl, show (sI 11).length = 4 from rfl]; omega)) rfl rfl rfl rfl rfl (Nat.le_of_ble_eq_true rfl) (fun h1 p1 => ?_)
          obtain ⟨k1, f1⟩ := p1
          have g1 : OG h1 345 346 347 G n := g0.of (f1 345 (by decide) (by decide)) (f1 346 (by decide) (by decide)) (f1 347 (by decide) (by decide))
          show jT _ _ 41 _ _ _ _
          refine tl_aload_n rfl rfl ?_
          refine tl_iload rfl rfl ?_
          refine tl_iload rfl rfl ?_
          refine tl_isub rfl ?_
          refine tl_v1v (c9 := 2) (k_addDig l h1 ((s : Int) - (f : Int)) (by omega) (by omega) _ k1 (by simp only [tk5, List.length_append, show (sI 9).length = 5 from rfl, show (sI 10).length = 4 from rfl, show (sI 11).length = 4 from rfl]; omega)) rfl rfl rfl rfl rfl (Nat.le_of_ble_eq_true rfl) (fun h2 p2 => ?_)
          obtain ⟨k2, f2⟩ := p2
          have g2 : OG h2 345 346 347 G n := g1.of (f2 345 (by decide) (by decide)) (f2 346 (by decide) (by decide)) (f2 347 (by decide) (by decide))
          refine tl_aload_n rfl rfl ?_
          refine tl_ldcs (q := 10) rfl ?_
          show jT _ _ 53 _ _ _ _
          refine tl_v1v (c9 := 2) (k_addText l h2 10 (by decide) _ k2 (by simp only [tk5, List.length_append, show (sI 9).length = 5 from rfl, show (sI 10).length = 4 from rfl, show (sI 11).length = 4 from rfl]; omega)) rfl rfl rfl rfl rfl (Nat.le_of_ble_eq_true rfl) (fun h3 p3 => ?_)
          obtain ⟨k3, f3⟩ := p3
          have g3 : OG h3 345 346 347 G n := g2.of (f3 345 (by decide) (by decide)) (f3 346 (by decide) (by decide)) (f3 347 (by decide) (by decide))
          refine tl_aload_n rfl rfl ?_
          refine tl_aload_n rfl rfl ?_
          refine tl_iload rfl rfl ?_
          refine tl_v1i (c9 := 3) (k_plA l Or345 _ G n g3 hv f (by omega)) rfl rfl rfl rfl rfl (Nat.le_of_ble_eq_true rfl) (fun zc hc pc => ?_)
          obtain ⟨qc, rfl⟩ := pc
          have qc := qc.symm
          subst qc
          refine tl_v1v (c9 := 2) (k_addDig l h3 (G 0 f) (by omega) (by omega) _ k3 (by simp only [tk5, List.length_append, show (sI 9).length = 5 from rfl, show (sI 10).length = 4 from rfl, show (sI 11).length = 4 from rfl]; omega)) rfl rfl rfl rfl rfl (Nat.le_of_ble_eq_true rfl) (fun h4 p4 => ?_)
          obtain ⟨k4, f4⟩ := p4
          have g4 : OG h4 345 346 347 G n := g3.of (f4 345 (by decide) (by decide)) (f4 346 (by decide) (by decide)) (f4 347 (by decide) (by decide))
          refine tl_aload_n rfl rfl ?_
          show jT _ _ 67 _ _ _ _
          refine tl_iload rfl rfl ?_
          refine tl_v1i (c9 := 3) (k_vaA l Or345 _ G n g4 hv f (by omega)) rfl rfl rfl rfl rfl (Nat.le_of_ble_eq_true rfl) (fun zd hd pd => ?_)
          obtain ⟨qd, rfl⟩ := pd
          have qd := qd.symm
          subst qd
          refine tl_if_eq (tgt := 91) rfl rfl ⟨by omega, by omega⟩ (fun c5 => ?_) (fun c5 => ?_)
          · skip
            refine tl_iload rfl rfl ?_
            refine tl_istore rfl (Nat.le_of_ble_eq_true rfl) rfl ?_
            refine tl_iinc rfl rfl rfl ?_
            refine tl_goto (tgt := 8) rfl rfl ?_
            show jT _ _ 8 _ _ _ _
            -- leaf 4 at 8
            first
              | (exfalso; omega)
              | (rw [clT_a (by omega) (by omega)] at eX
                 have tl := tkS_len T (n := (s : Int) - (f : Int)) (p := G 0 f) (v := G 1 f) (by omega) (by omega) (by omega)
                 first
                   | (refine ih s (s + 1) _ h6 (by omega) ⟨by omega, by omega, by omega, (by have e6 := k6; rw [show tkS T ((s : Int) - (f : Int)) (G 0 f) (G 1 f) = (tk5 T ((s : Int) - (f : Int)) (G 0 f) ++ sI 11) ++ dg (G 1 f) from by rw [tkS, if_neg (by omega)]]; exact e6), by omega, eX, (fun y y1 y2 => by rw [f6 y y1 y2, f5 y y1 y2, f4 y y1 y2, f3 y y1 y2, f2 y y1 y2, f1 y y1 y2]; exact fr y y1 y2)⟩)
                   | (refine ih s (s + 1) _ h4 (by omega) ⟨by omega, by omega, by omega, (by have e4 := k4; rw [show tkS T ((s : Int) - (f : Int)) (G 0 f) (G 1 f) = tk5 T ((s : Int) - (f : Int)) (G 0 f) from by rw [tkS, if_pos (by omega)]]; exact e4), by omega, eX, (fun y y1 y2 => by rw [f4 y y1 y2, f3 y y1 y2, f2 y y1 y2, f1 y y1 y2]; exact fr y y1 y2)⟩))
              | (rw [clT_b (by omega) (by omega)] at eX
                 exact ih f (s + 1) T mem (by omega) ⟨by omega, by omega, by omega, k0, by omega, eX, fr⟩)
          · show jT _ _ 75 _ _ _ _
            show jT _ _ 75 _ _ _ _
            refine tl_aload_n rfl rfl ?_
            refine tl_ldcs (q := 11) rfl ?_
            refine tl_v1v (c9 := 2) (k_addText l h4 11 (by decide) _ k4 (by simp only [tk5, List.length_append, show (sI 9).length = 5 from rfl, show (sI 10).length = 4 from rfl, show (sI 11).length = 4 from rfl]; omega)) rfl rfl rfl rfl rfl (Nat.le_of_ble_eq_true rfl) (fun h5 p5 => ?_)
            obtain ⟨k5, f5⟩ := p5
            have g5 : OG h5 345 346 347 G n := g4.of (f5 345 (by decide) (by decide)) (f5 346 (by decide) (by decide)) (f5 347 (by decide) (by decide))
            refine tl_aload_n rfl rfl ?_
            refine tl_aload_n rfl rfl ?_
            refine tl_iload rfl rfl ?_
            refine tl_v1i (c9 := 3) (k_vaA l Or345 _ G n g5 hv f (by omega)) rfl rfl rfl rfl rfl (Nat.le_of_ble_eq_true rfl) (fun ze he pe => ?_)
            obtain ⟨qe, rfl⟩ := pe
            have qe := qe.symm
            subst qe
            show jT _ _ 88 _ _ _ _
            refine tl_v1v (c9 := 2) (k_addDig l h5 (G 1 f) (by omega) (by omega) _ k5 (by simp only [tk5, List.length_append, show (sI 9).length = 5 from rfl, show (sI 10).length = 4 from rfl, show (sI 11).length = 4 from rfl]; omega)) rfl rfl rfl rfl rfl (Nat.le_of_ble_eq_true rfl) (fun h6 p6 => ?_)
            obtain ⟨k6, f6⟩ := p6
            have g6 : OG h6 345 346 347 G n := g5.of (f6 345 (by decide) (by decide)) (f6 346 (by decide) (by decide)) (f6 347 (by decide) (by decide))
            refine tl_iload rfl rfl ?_
            refine tl_istore rfl (Nat.le_of_ble_eq_true rfl) rfl ?_
            refine tl_iinc rfl rfl rfl ?_
            refine tl_goto (tgt := 8) rfl rfl ?_
            show jT _ _ 8 _ _ _ _
            -- leaf 5 at 8
            first
              | (exfalso; omega)
              | (rw [clT_a (by omega) (by omega)] at eX
                 have tl := tkS_len T (n := (s : Int) - (f : Int)) (p := G 0 f) (v := G 1 f) (by omega) (by omega) (by omega)
                 first
                   | (refine ih s (s + 1) _ h6 (by omega) ⟨by omega, by omega, by omega, (by have e6 := k6; rw [show tkS T ((s : Int) - (f : Int)) (G 0 f) (G 1 f) = (tk5 T ((s : Int) - (f : Int)) (G 0 f) ++ sI 11) ++ dg (G 1 f) from by rw [tkS, if_neg (by omega)]]; exact e6), by omega, eX, (fun y y1 y2 => by rw [f6 y y1 y2, f5 y y1 y2, f4 y y1 y2, f3 y y1 y2, f2 y y1 y2, f1 y y1 y2]; exact fr y y1 y2)⟩)
                   | (refine ih s (s + 1) _ h4 (by omega) ⟨by omega, by omega, by omega, (by have e4 := k4; rw [show tkS T ((s : Int) - (f : Int)) (G 0 f) (G 1 f) = tk5 T ((s : Int) - (f : Int)) (G 0 f) from by rw [tkS, if_pos (by omega)]]; exact e4), by omega, eX, (fun y y1 y2 => by rw [f4 y y1 y2, f3 y y1 y2, f2 y y1 y2, f1 y y1 y2]; exact fr y y1 y2)⟩))
              | (rw [clT_b (by omega) (by omega)] at eX
                 exact ih f (s + 1) T mem (by omega) ⟨by omega, by omega, by omega, k0, by omega, eX, fr⟩)
set_option maxRecDepth 20000 in
set_option maxHeartbeats 1000000 in
theorem k_listCopy (l : Launch) (h : jH) (G : jH) (n : Nat) (hg : OG h 345 346 347 G n) (hv : OGv G n) (f u : Nat) (fu : f ≤ u) (un : u ≤ n) (hp : ∀ q, f ≤ q → q < u → 0 ≤ G 0 q) (T : List Int) (kT : RL h 375 376 T) (bd : T.length + 20 * u ≤ 1280 + 20 * f) : cV l 27 [.ref 374, .ref 345, .int (jI (f : Int)), .int (jI (u : Int))] h (fun h' => RL h' 375 376 (clT G u (u + 1 - (f + 1)) f (f + 1) T) ∧ ∀ y, y ≠ 375 → y ≠ 376 → h' y = h y) := by
  refine cV.of rfl rfl ?_
  refine tl_iload_n rfl rfl ?_
  refine tl_istore rfl (Nat.le_of_ble_eq_true rfl) rfl ?_
  refine tl_iload_n rfl rfl ?_
  refine tl_iconst rfl ?_
  refine tl_iadd rfl ?_
  refine tl_istore rfl (Nat.le_of_ble_eq_true rfl) rfl ?_
  show jT _ _ 8 _ _ _ _
  -- leaf 0 at 8
  exact k_lc_lp l h G n hg hv u un f hp _ (f : Int) _ (fun mem hj => ⟨rfl, hj⟩) _ f (f + 1) T h (Nat.lt_succ_self _) ⟨by omega, by omega, by omega, kT, bd, rfl, fun _ _ _ => rfl⟩
set_option maxRecDepth 20000 in
set_option maxHeartbeats 1000000 in
theorem k_le_lp (l : Launch) (h : jH) (G : jH) (n : Nat) (hg : OG h 345 346 347 G n) (hv : OGv G n) (b u : Nat) (un : u ≤ n) (X : List Int) (P : Option Value → jH → Prop) (hP : ∀ mem, (RL mem 375 376 X ∧ ∀ y, y ≠ 375 → y ≠ 376 → mem y = h y) → P none mem) : ∀ (m : Nat) (s : Nat) (T : List Int) (mem : jH), u - s < m → (b ≤ s ∧ s ≤ u ∧ RL mem 375 376 T ∧ T.length + 20 * (u - s) ≤ 1280 ∧ exT G b (u - s) s T = X ∧ ∀ y, y ≠ 375 → y ≠ 376 → mem y = h y) → jT l 28 3 [some (.ref 374), some (.ref 345), some (.int (jI ((b : Int)))), some (.int (jI ((u : Int)))), some (.int (jI ((s : Int))))] [] mem P := by
  intro m
  induction m with
  | zero => intro s T mem hk; omega
  | succ m ih =>
    intro s T mem hk hi
    obtain ⟨i0, i1, k0, bd, eX, fr⟩ := hi
    have g0 : OG mem 345 346 347 G n := hg.of (fr 345 (by decide) (by decide)) (fr 346 (by decide) (by decide)) (fr 347 (by decide) (by decide))
    have n64 := hv.1
    have vs : u ≤ s ∨ (s < u ∧ byt (G 1 s)) := by
      by_cases c : s < u
      · exact Or.inr ⟨c, (hv.2 s (by omega)).2⟩
      · exact Or.inl (by omega)
    unfold byt at vs
    have s9 := sp9_len T
    have dv := dg_len (G 1 s)
    have xl := exS_len G b s T
    refine tl_iload rfl rfl ?_
    refine tl_iload_n rfl rfl ?_
    refine tl_icmp_ge (tgt := 49) rfl rfl ⟨by omega, by omega⟩ ⟨by omega, by omega⟩ (fun c1 => ?_) (fun c1 => ?_)
    · skip
      refine tl_ret rfl ?_
      -- leaf 0 at 49
      rw [show u - s = 0 by omega] at eX
      have eX2 : T = X := eX
      subst eX2
      exact hP mem ⟨k0, fr⟩
    · show jT _ _ 9 _ _ _ _
      refine tl_iload rfl rfl ?_
      refine tl_iload_n rfl rfl ?_
      show jT _ _ 12 _ _ _ _
      refine tl_icmp_ne (tgt := 24) rfl rfl ⟨by omega, by omega⟩ ⟨by omega, by omega⟩ (fun c2 => ?_) (fun c2 => ?_)
      · skip
        refine tl_aload_n rfl rfl ?_
        refine tl_getr (c := 2) (k9 := 0) (b := 375) rfl rfl rfl rfl ?_
        refine tl_bipush rfl rfl ?_
        refine tl_v1v (c9 := 8) (c_addL l rs9 mem T k0 (by omega) 44) rfl rfl rfl rfl rfl (Nat.le_of_ble_eq_true rfl) (fun h1 p1 => ?_)
        obtain ⟨k1, f1⟩ := p1
        have g1 : OG h1 345 346 347 G n := g0.of (f1 345 (by decide) (by decide)) (f1 346 (by decide) (by decide)) (f1 347 (by decide) (by decide))
        refine tl_aload_n rfl rfl ?_
        refine tl_aload_n rfl rfl ?_
        show jT _ _ 35 _ _ _ _
        refine tl_iload rfl rfl ?_
        refine tl_v1i (c9 := 3) (k_vaA l Or345 _ G n g1 hv s (by omega)) rfl rfl rfl rfl rfl (Nat.le_of_ble_eq_true rfl) (fun za ha pa => ?_)
        obtain ⟨qa, rfl⟩ := pa
        have qa := qa.symm
        subst qa
        refine tl_v1v (c9 := 2) (k_addDig l h1 (G 1 s) (by omega) (by omega) _ k1 (by simp only [List.length_append, List.length_cons, List.length_nil, show (sI 12).length = 4 from rfl]; omega)) rfl rfl rfl rfl rfl (Nat.le_of_ble_eq_true rfl) (fun h2 p2 => ?_)
        obtain ⟨k2, f2⟩ := p2
        have g2 : OG h2 345 346 347 G n := g1.of (f2 345 (by decide) (by decide)) (f2 346 (by decide) (by decide)) (f2 347 (by decide) (by decide))
        refine tl_iinc rfl rfl rfl ?_
        refine tl_goto (tgt := 3) rfl rfl ?_
        show jT _ _ 3 _ _ _ _
        -- leaf 1 at 3
        rw [exT_s (by omega)] at eX
        refine ih (s + 1) (exS G b s T) h2 (by omega) ⟨by omega, by omega, ?_, by omega, eX, (fun y y1 y2 => by rw [f2 y y1 y2, f1 y y1 y2]; exact fr y y1 y2)⟩
        unfold exS
        first
          | (rw [if_pos (by omega)]; exact k2)
          | (rw [if_neg (by omega)]; exact k2)
      · show jT _ _ 15 _ _ _ _
        refine tl_aload_n rfl rfl ?_
        refine tl_ldcs (q := 12) rfl ?_
        show jT _ _ 18 _ _ _ _
        refine tl_v1v (c9 := 2) (k_startStep l mem 12 (by decide) T k0 (by simp only [List.length_append, List.length_cons, List.length_nil, show (sI 12).length = 4 from rfl]; omega)) rfl rfl rfl rfl rfl (Nat.le_of_ble_eq_true rfl) (fun h1 p1 => ?_)
        obtain ⟨k1, f1⟩ := p1
        have g1 : OG h1 345 346 347 G n := g0.of (f1 345 (by decide) (by decide)) (f1 346 (by decide) (by decide)) (f1 347 (by decide) (by decide))
        refine tl_goto (tgt := 33) rfl rfl ?_
        refine tl_aload_n rfl rfl ?_
        refine tl_aload_n rfl rfl ?_
        refine tl_iload rfl rfl ?_
        refine tl_v1i (c9 := 3) (k_vaA l Or345 _ G n g1 hv s (by omega)) rfl rfl rfl rfl rfl (Nat.le_of_ble_eq_true rfl) (fun za ha pa => ?_)
        obtain ⟨qa, rfl⟩ := pa
        have qa := qa.symm
        subst qa
        refine tl_v1v (c9 := 2) (k_addDig l h1 (G 1 s) (by omega) (by omega) _ k1 (by simp only [List.length_append, List.length_cons, List.length_nil, show (sI 12).length = 4 from rfl]; omega)) rfl rfl rfl rfl rfl (Nat.le_of_ble_eq_true rfl) (fun h2 p2 => ?_)
        obtain ⟨k2, f2⟩ := p2
        have g2 : OG h2 345 346 347 G n := g1.of (f2 345 (by decide) (by decide)) (f2 346 (by decide) (by decide)) (f2 347 (by decide) (by decide))
        show jT _ _ 43 _ _ _ _
        refine tl_iinc rfl rfl rfl ?_
        refine tl_goto (tgt := 3) rfl rfl ?_
        show jT _ _ 3 _ _ _ _
        -- leaf 2 at 3
        rw [exT_s (by omega)] at eX
        refine ih (s + 1) (exS G b s T) h2 (by omega) ⟨by omega, by omega, ?_, by omega, eX, (fun y y1 y2 => by rw [f2 y y1 y2, f1 y y1 y2]; exact fr y y1 y2)⟩
        unfold exS
        first
          | (rw [if_pos (by omega)]; exact k2)
          | (rw [if_neg (by omega)]; exact k2)
set_option maxRecDepth 20000 in
set_option maxHeartbeats 1000000 in
theorem k_listExtra (l : Launch) (h : jH) (G : jH) (n : Nat) (hg : OG h 345 346 347 G n) (hv : OGv G n) (b u : Nat) (bu : b ≤ u) (un : u ≤ n) (T : List Int) (kT : RL h 375 376 T) (bd : T.length + 20 * (u - b) ≤ 1280) : cV l 28 [.ref 374, .ref 345, .int (jI (b : Int)), .int (jI (u : Int))] h (fun h' => RL h' 375 376 (exT G b (u - b) b T) ∧ ∀ y, y ≠ 375 → y ≠ 376 → h' y = h y) := by
  refine cV.of rfl rfl ?_
  refine tl_iload_n rfl rfl ?_
  refine tl_istore rfl (Nat.le_of_ble_eq_true rfl) rfl ?_
  show jT _ _ 3 _ _ _ _
  -- leaf 0 at 3
  exact k_le_lp l h G n hg hv b u un _ _ (fun mem hj => ⟨rfl, hj⟩) _ b T h (Nat.lt_succ_self _) ⟨by omega, by omega, kT, bd, rfl, fun _ _ _ => rfl⟩
set_option maxRecDepth 20000 in
set_option maxHeartbeats 1000000 in
theorem k_ls_lp (l : Launch) (h : jH) (S G : jH) (n N : Nat) (lok : LOK S G n N) (z0 : 0 < n → S 4 0 = 0) (hn : h 339 4 = (n : Int)) (kp : PTK h S n) (hg : OG h 345 346 347 G N) (P : Option Value → jH → Prop) (hP : ∀ mem, (RL mem 375 376 (lsT S G n) ∧ ∀ y, y ≠ 375 → y ≠ 376 → mem y = h y) → P none mem) : ∀ (m : Nat) (i : Nat) (mem : jH) (y3 : Option Value), n - i < m → (i ≤ n ∧ RL mem 375 376 (lsT S G i) ∧ ∀ y, y ≠ 375 → y ≠ 376 → mem y = h y) → jT l 26 10 [some (.ref 374), some (.ref 339), some (.int (jI ((i : Int)))), y3] [] mem P := by
  intro m
  induction m with
  | zero => intro i mem y3 hk; omega
  | succ m ih =>
    intro i mem y3 hk hi
    obtain ⟨i0, k0, fr⟩ := hi
    have e4 : mem 339 4 = (n : Int) := by rw [fr 339 (by decide) (by decide)]; exact hn
    have n99 := lok.2.2.1
    have N64 := lok.2.1
    have hv : OGv G N := ⟨lok.2.1, fun i hi => ⟨⟨(lok.2.2.2 i hi).1, (lok.2.2.2 i hi).2.1⟩, (lok.2.2.2 i hi).2.2⟩⟩
    have g0 : OG mem 345 346 347 G N := hg.of (fr 345 (by decide) (by decide)) (fr 346 (by decide) (by decide)) (fr 347 (by decide) (by decide))
    have kf : n ≤ i ∨ (i < n ∧ mem 343 i = S 4 i ∧ mem 341 i = S 2 i ∧ mem 342 i = S 3 i ∧ 0 ≤ S 4 i ∧ 0 ≤ S 2 i ∧ 0 ≤ S 3 i ∧ S 4 i + S 2 i + S 3 i ≤ (N : Int) ∧ (lsT S G i).length ≤ 20 * (S 4 i).toNat ∧ (lsC S G i (lsT S G i)).length ≤ (lsT S G i).length + 20 * (S 2 i).toNat) := by
      by_cases c : i < n
      · have x := lok.1 i c
        exact Or.inr ⟨c, by rw [fr 343 (by decide) (by decide)]; exact (kp i c).2.2.2, by rw [fr 341 (by decide) (by decide)]; exact (kp i c).2.1, by rw [fr 342 (by decide) (by decide)]; exact (kp i c).2.2.1, x.1, x.2.1, x.2.2.1, x.2.2.2.1, lsT_len lok z0 i c, lsC_len lok c _⟩
      · exact Or.inl (by omega)
    have hA : S 4 i = (pA9 S i : Int) ∨ n ≤ i := by unfold pA9; omega
    have hB : S 4 i + S 2 i = (pB9 S i : Int) ∨ n ≤ i := by unfold pB9; omega
    have hC : S 4 i + S 2 i + S 3 i = (pC9 S i : Int) ∨ n ≤ i := by unfold pC9; omega
    refine tl_iload_n rfl rfl ?_
    refine tl_aload_n rfl rfl ?_
    refine tl_geti (c := 6) (k9 := 4) rfl rfl rfl ?_
    rw [e4]
    refine tl_icmp_ge (tgt := 76) rfl rfl ⟨by omega, by omega⟩ ⟨by omega, by omega⟩ (fun c1 => ?_) (fun c1 => ?_)
    · skip
      refine tl_ret rfl ?_
      -- leaf 0 at 76
      first
        | (exfalso; omega)
        | (have e : i = n := by omega
           subst e
           exact hP mem ⟨k0, fr⟩)
    · show jT _ _ 18 _ _ _ _
      refine tl_iload_n rfl rfl ?_
      show jT _ _ 19 _ _ _ _
      refine tl_bipush rfl rfl ?_
      refine tl_icmp_ge (tgt := 76) rfl rfl ⟨by omega, by omega⟩ ⟨by omega, by omega⟩ (fun c2 => ?_) (fun c2 => ?_)
      · skip
        refine tl_ret rfl ?_
        -- leaf 1 at 76
        first
          | (exfalso; omega)
          | (have e : i = n := by omega
             subst e
             exact hP mem ⟨k0, fr⟩)
      · show jT _ _ 24 _ _ _ _
        refine tl_aload_n rfl rfl ?_
        refine tl_getr (c := 6) (k9 := 8) (b := 343) rfl rfl rfl rfl ?_
        refine tl_iload_n rfl rfl ?_
        refine tl_iald (n := 100) rfl rfl rfl (by omega) (by omega) ?_
        rw [Int.toNat_natCast, show mem 343 i = S 4 i by omega]
        show jT _ _ 30 _ _ _ _
        refine tl_aload_n rfl rfl ?_
        refine tl_getr (c := 6) (k9 := 6) (b := 341) rfl rfl rfl rfl ?_
        refine tl_iload_n rfl rfl ?_
        refine tl_iald (n := 100) rfl rfl rfl (by omega) (by omega) ?_
        rw [Int.toNat_natCast, show mem 341 i = S 2 i by omega]
        refine tl_iadd rfl ?_
        rw [show S 4 i + S 2 i = (pB9 S i : Int) by omega]
        refine tl_istore_n rfl (Nat.le_of_ble_eq_true rfl) rfl ?_
        refine tl_aload_n rfl rfl ?_
        show jT _ _ 39 _ _ _ _
        refine tl_aload_n rfl rfl ?_
        refine tl_getr (c := 6) (k9 := 10) (b := 345) rfl rfl rfl rfl ?_
        refine tl_aload_n rfl rfl ?_
        refine tl_getr (c := 6) (k9 := 8) (b := 343) rfl rfl rfl rfl ?_
        refine tl_iload_n rfl rfl ?_
        refine tl_iald (n := 100) rfl rfl rfl (by omega) (by omega) ?_
        rw [Int.toNat_natCast, show mem 343 i = (pA9 S i : Int) by omega]
        refine tl_iload_n rfl rfl ?_
        show jT _ _ 50 _ _ _ _
        refine tl_v3v (c9 := 2) (k_listCopy l mem G N g0 hv (pA9 S i) (pB9 S i) (by omega) (by omega) (fun q q1 q2 => (lok.1 i (by omega)).2.2.2.2.2 q (by omega) (by omega)) _ k0 (by unfold pA9 pB9; omega)) rfl rfl rfl rfl rfl (Nat.le_of_ble_eq_true rfl) (fun h1 p1 => ?_)
        obtain ⟨k1, f1⟩ := p1
        have g1 : OG h1 345 346 347 G N := g0.of (f1 345 (by decide) (by decide)) (f1 346 (by decide) (by decide)) (f1 347 (by decide) (by decide))
        change RL h1 375 376 (lsC S G i (lsT S G i)) at k1
        refine tl_aload_n rfl rfl ?_
        refine tl_aload_n rfl rfl ?_
        refine tl_getr (c := 6) (k9 := 10) (b := 345) rfl rfl rfl rfl ?_
        refine tl_iload_n rfl rfl ?_
        refine tl_iload_n rfl rfl ?_
        refine tl_aload_n rfl rfl ?_
        show jT _ _ 61 _ _ _ _
        refine tl_getr (c := 6) (k9 := 7) (b := 342) rfl rfl rfl rfl ?_
        refine tl_iload_n rfl rfl ?_
        refine tl_iald (n := 100) rfl rfl rfl (by omega) (by omega) ?_
        rw [Int.toNat_natCast, f1 342 (by decide) (by decide), show mem 342 i = S 3 i by omega]
        refine tl_iadd rfl ?_
        rw [show (pB9 S i : Int) + S 3 i = (pC9 S i : Int) by omega]
        refine tl_v3v (c9 := 2) (k_listExtra l h1 G N g1 hv (pB9 S i) (pC9 S i) (by omega) (by omega) _ k1 (by unfold pC9 pB9; omega)) rfl rfl rfl rfl rfl (Nat.le_of_ble_eq_true rfl) (fun h2 p2 => ?_)
        obtain ⟨k2, f2⟩ := p2
        refine tl_iinc rfl rfl rfl ?_
        refine tl_goto (tgt := 10) rfl rfl ?_
        show jT _ _ 10 _ _ _ _
        -- leaf 2 at 10
        refine ih (i + 1) h2 _ (by omega) ⟨by omega, k2, fun y y1 y2 => by rw [f2 y y1 y2, f1 y y1 y2]; exact fr y y1 y2⟩
set_option maxRecDepth 20000 in
set_option maxHeartbeats 1000000 in
theorem k_list (l : Launch) (h : jH) (S G : jH) (n N : Nat) (lok : LOK S G n N) (z0 : 0 < n → S 4 0 = 0) (hn : h 339 4 = (n : Int)) (kp : PTK h S n) (hg : OG h 345 346 347 G N) : cV l 26 [.ref 374, .ref 339] h (fun h' => RL h' 375 376 (lsT S G n) ∧ ∀ y, y ≠ 375 → y ≠ 376 → h' y = h y) := by
  refine cV.of rfl rfl ?_
  refine tl_aload_n rfl rfl ?_
  refine tl_getr (c := 2) (k9 := 0) (b := 375) rfl rfl rfl rfl ?_
  refine tl_iconst rfl ?_
  refine tl_puti (c := 8) (k9 := 1) rfl rfl rfl rfl ?_
  refine tl_iconst rfl ?_
  refine tl_istore_n rfl (Nat.le_of_ble_eq_true rfl) rfl ?_
  show jT _ _ 10 _ _ _ _
  -- leaf 0 at 10
  refine k_ls_lp l (hs h 375 1 0) S G n N lok z0 (by rw [hs_O (by decide)]; exact hn) (kp.of (fun x x1 x2 => hs_O (by omega))) (hg.of (hs_O (by decide)) (hs_O (by decide)) (hs_O (by decide))) _ (fun mem hj => ⟨rfl, hj.1, fun y y1 y2 => by rw [hj.2 y y1 y2, hs_O y1]⟩) _ 0 _ _ (Nat.lt_succ_self _) ⟨Nat.zero_le _, ⟨by rw [hs_s]; rfl, fun i hi => absurd hi (Nat.not_lt_zero _)⟩, fun _ _ _ => rfl⟩
set_option maxRecDepth 20000 in
set_option maxHeartbeats 1000000 in
theorem k_listed (l : Launch) (h s : jH) (t k : Int) (hI : IC h s t) (hk : jr k) : cI l 182 [.ref 0, .int (jI k)] h (PK h t (Dlisted s k)) := by
  have k1 := hk.1
  have k2 := hk.2
  refine cI.of rfl rfl ?_
  refine tl_aload_n rfl rfl ?_
  refine tl_iload_n rfl rfl ?_
  refine tl_v1i (c9 := 11) (k_isSound l h (s 390) hI.1 k ⟨by omega, by omega⟩) rfl rfl rfl rfl rfl (Nat.le_of_ble_eq_true rfl) (fun z1 h1 p1 => ?_)
  obtain ⟨e1, g1, f1⟩ := p1
  have b1 := zb_b (snd9 (s 390) k)
  subst e1
  refine tl_if_ne (tgt := 10) rfl rfl ⟨by omega, by omega⟩ (fun c1 => ?_) (fun c1 => ?_)
  · skip
    have es := zb1 c1
    refine tl_aload_n rfl rfl ?_
    refine tl_getr (c := 11) (k9 := 16) (b := 374) rfl rfl rfl rfl ?_
    show jT _ _ 14 _ _ _ _
    refine tl_aload_n rfl rfl ?_
    refine tl_getr (c := 11) (k9 := 13) (b := 339) rfl rfl rfl rfl ?_
    refine tl_v1v (c9 := 2) (k_list l h1 (rS (slL (s 390) k)) (rG (slL (s 390) k)) (rNp (slL (s 390) k)) (rNs (slL (s 390) k)).toNat (sd_L hI.sok es).1 (sd_L hI.sok es).2 (g1 es).1.2.2.2.2 (g1 es).2.1 (g1 es).2.2.1) rfl rfl rfl rfl rfl (Nat.le_of_ble_eq_true rfl) (fun h2 p2 => ?_)
    obtain ⟨k2, f2⟩ := p2
    change RL h2 375 376 (LTX (slL (s 390) k)) at k2
    refine tl_aload_n rfl rfl ?_
    refine tl_getr (c := 11) (k9 := 16) (b := 374) rfl rfl rfl rfl ?_
    refine tl_getr (c := 2) (k9 := 0) (b := 375) rfl rfl rfl rfl ?_
    refine tl_geti (c := 8) (k9 := 1) rfl rfl rfl ?_
    rw [k2.1]
    show jT _ _ 31 _ _ _ _
    refine tl_iret rfl ?_
    -- leaf 0 at 31
    refine ⟨_, rfl, ?_⟩
    have e : Ald (s 390) k = ((LTX (slL (s 390) k)).length : Int) := by rw [Ald, if_pos es]
    rw [Dlisted, e]
    exact PK.rd hI (KF.of (fun x hx => by rw [f2 x (by omega) (by omega), f1 x (by omega)]))
  · show jT _ _ 8 _ _ _ _
    have es := zb0' c1
    refine tl_iconst rfl ?_
    refine tl_iret rfl ?_
    -- leaf 1 at 9
    refine ⟨_, rfl, ?_⟩
    have e : Ald (s 390) k = -1 := by rw [Ald, if_neg (by rw [es]; decide)]
    rw [Dlisted, e]
    exact PK.rd hI (KF.rd9 f1)
theorem LTX_len {R : Nat → Int} {k : Int} (so : sOk R) (h : snd9 R k = true) : (LTX (slL R k)).length ≤ 1280 := by
  obtain ⟨lok, z0⟩ := sd_L so h
  unfold LTX
  cases e : rNp (slL R k) with
  | zero => show 0 ≤ _; omega
  | succ n =>
    rw [e] at lok z0
    have a := lok.1 n (by omega)
    have b := lsT_len lok z0 n (by omega)
    have c := lsC_len lok (show n < n + 1 by omega) (lsT (rS (slL R k)) (rG (slL R k)) n)
    have d := lsE_len (S := rS (slL R k)) (G := rG (slL R k)) (i := n) (lsC (rS (slL R k)) (rG (slL R k)) n (lsT (rS (slL R k)) (rG (slL R k)) n))
    have N4 := lok.2.1
    rw [lsT]
    omega
set_option maxRecDepth 20000 in
set_option maxHeartbeats 1000000 in
theorem k_listing (l : Launch) (h s : jH) (t k i : Int) (hI : IC h s t) (hk : jr k) (hi : jr i) : cI l 183 [.ref 0, .int (jI k), .int (jI i)] h (PK h t (Dlisting s k i)) := by
  have k1 := hk.1
  have k2 := hk.2
  refine cI.of rfl rfl ?_
  refine tl_aload_n rfl rfl ?_
  refine tl_iload_n rfl rfl ?_
  refine tl_v1i (c9 := 11) (k_isSound l h (s 390) hI.1 k ⟨by omega, by omega⟩) rfl rfl rfl rfl rfl (Nat.le_of_ble_eq_true rfl) (fun z1 h1 p1 => ?_)
  obtain ⟨e1, g1, f1⟩ := p1
  have b1 := zb_b (snd9 (s 390) k)
  subst e1
  refine tl_if_ne (tgt := 10) rfl rfl ⟨by omega, by omega⟩ (fun c1 => ?_) (fun c1 => ?_)
  · skip
    have es := zb1 c1
    refine tl_aload_n rfl rfl ?_
    refine tl_getr (c := 11) (k9 := 16) (b := 374) rfl rfl rfl rfl ?_
    show jT _ _ 14 _ _ _ _
    refine tl_aload_n rfl rfl ?_
    refine tl_getr (c := 11) (k9 := 13) (b := 339) rfl rfl rfl rfl ?_
    refine tl_v1v (c9 := 2) (k_list l h1 (rS (slL (s 390) k)) (rG (slL (s 390) k)) (rNp (slL (s 390) k)) (rNs (slL (s 390) k)).toNat (sd_L hI.sok es).1 (sd_L hI.sok es).2 (g1 es).1.2.2.2.2 (g1 es).2.1 (g1 es).2.2.1) rfl rfl rfl rfl rfl (Nat.le_of_ble_eq_true rfl) (fun h2 p2 => ?_)
    obtain ⟨k2, f2⟩ := p2
    change RL h2 375 376 (LTX (slL (s 390) k)) at k2
    refine tl_aload_n rfl rfl ?_
    refine tl_getr (c := 11) (k9 := 16) (b := 374) rfl rfl rfl rfl ?_
    refine tl_getr (c := 2) (k9 := 0) (b := 375) rfl rfl rfl rfl ?_
    refine tl_iload_n rfl rfl ?_
    show jT _ _ 29 _ _ _ _
    refine tl_v1i (c9 := 8) (c_Row_get l rs9 h2 i (by rw [k2.1]; omega) (by rw [k2.1]; have := LTX_len hI.sok es; omega) hi) rfl rfl rfl rfl rfl (Nat.le_of_ble_eq_true rfl) (fun z3 h3 p3 => ?_)
    obtain ⟨q3, p3⟩ := p3
    have q3 := q3.symm
    subst q3
    refine tl_iret rfl ?_
    -- leaf 0 at 32
    refine ⟨_, rfl, ?_⟩
    have e : z3 = Alg (s 390) k i := by
      rw [p3, k2.1, Alg]
      by_cases c : 0 ≤ i ∧ i < ((LTX (slL (s 390) k)).length : Int)
      · rw [if_pos c, if_pos ⟨es, c⟩]; exact k2.2 _ (by omega)
      · rw [if_neg c, if_neg (fun q => c q.2)]
    rw [e, Dlisting]
    exact PK.rd hI (KF.of (fun x hx => by rw [f2 x (by omega) (by omega), f1 x (by omega)]))
  · show jT _ _ 8 _ _ _ _
    have es := zb0' c1
    refine tl_iconst rfl ?_
    refine tl_iret rfl ?_
    -- leaf 1 at 9
    refine ⟨_, rfl, ?_⟩
    have e : Alg (s 390) k i = -1 := by rw [Alg, if_neg (by rw [es]; exact fun q => absurd q.1 (by decide))]
    rw [Dlisting, e]
    exact PK.rd hI (KF.rd9 f1)
