/-! packing, of the walked file: rows as lists, Origins' parts, the three ways -/
def RL (h : jH) (r a : Nat) (L : List Int) : Prop := h r 1 = (L.length : Int) ∧ ∀ i, i < L.length → h a i = L.getD i 0
theorem RL.of {h h' : jH} {r a : Nat} {L : List Int} (k : RL h r a L) (e1 : h' r = h r) (e2 : h' a = h a) : RL h' r a L := ⟨by rw [e1]; exact k.1, fun i hi => by rw [e2]; exact k.2 i hi⟩
theorem c_addL (l : Launch) {r a n : Nat} (hS : RowS r a n) (h : jH) (L : List Int) (k : RL h r a L) (hn : L.length < n) (x : Int) : cV l 100 [.ref r, .int (jI x)] h (fun h' => RL h' r a (L ++ [x]) ∧ ∀ y, y ≠ r → y ≠ a → h' y = h y) := by
  have hne := hS.ne
  have hle := hS.le
  refine (c_Row_add l hS h x (by rw [k.1]; omega) (by rw [k.1]; omega)).mono (fun h' e => ?_)
  rw [if_pos (by rw [k.1]; omega), k.1, Int.toNat_natCast] at e
  refine ⟨⟨?_, fun i hi => ?_⟩, fun y y1 y2 => ?_⟩
  · rw [e, hs_s, List.length_append]; show (L.length : Int) + 1 = ((L.length + 1 : Nat) : Int); omega
  · rw [List.length_append] at hi
    have hi2 : i < L.length + 1 := hi
    rw [e, hs_o (fun z => hne z.symm)]
    by_cases c : i = L.length
    · subst c; rw [hs_s, gd_s]
    · rw [hs_k c, gd_l (by omega)]; exact k.2 i (by omega)
  · rw [e, hs_O y1, hs_O y2]
def Dst (r a r2 a2 : Nat) : Prop := r ≠ r2 ∧ r ≠ a2 ∧ a ≠ r2 ∧ a ≠ a2
set_option maxRecDepth 20000 in
set_option maxHeartbeats 1000000 in
theorem k_addNum (l : Launch) {r a n : Nat} (hS : RowS r a n) (h : jH) (L : List Int) (k : RL h r a L) (hn : L.length + 2 ≤ n) (v : Int) (v0 : 0 ≤ v) (v1 : v < 16384) : cV l 49 [.ref r, .int (jI v)] h (fun h' => RL h' r a (L ++ nm v) ∧ ∀ y, y ≠ r → y ≠ a → h' y = h y) := by
  refine cV.of rfl rfl ?_
  refine tl_iload_n rfl rfl ?_
  refine tl_sipush rfl rfl ?_
  refine tl_icmp_ge (tgt := 15) rfl rfl ⟨by omega, by omega⟩ ⟨by omega, by omega⟩ (fun c1 => ?_) (fun c1 => ?_)
  · skip
    refine tl_aload_n rfl rfl ?_
    refine tl_sipush rfl rfl ?_
    refine tl_iload_n rfl rfl ?_
    show jT _ _ 20 _ _ _ _
    refine tl_sipush rfl rfl ?_
    refine tl_irem rfl (by omega) (by omega) (by omega) (by omega) ?_
    refine tl_iadd rfl ?_
    refine tl_v1v (c9 := 8) (c_addL l hS h L k (by omega) (128 + v % 128)) rfl rfl rfl hS.1 rfl (Nat.le_of_ble_eq_true rfl) (fun h1 p1 => ?_)
    obtain ⟨k1, f1⟩ := p1
    refine tl_aload_n rfl rfl ?_
    refine tl_iload_n rfl rfl ?_
    refine tl_sipush rfl rfl ?_
    show jT _ _ 33 _ _ _ _
    refine tl_idiv rfl (by omega) (by omega) (by omega) (by omega) ?_
    refine tl_v1v (c9 := 8) (c_addL l hS h1 _ k1 (by rw [List.length_append]; show L.length + 1 < n; omega) (v / 128)) rfl rfl rfl hS.1 rfl (Nat.le_of_ble_eq_true rfl) (fun h2 p2 => ?_)
    obtain ⟨k2, f2⟩ := p2
    refine tl_ret rfl ?_
    -- leaf 0 at 37
    refine ⟨rfl, ?_, fun y y1 y2 => (f2 y y1 y2).trans (f1 y y1 y2)⟩
    rw [nm_2 (by omega), ← List.append_assoc]; exact k2
  · show jT _ _ 7 _ _ _ _
    refine tl_aload_n rfl rfl ?_
    refine tl_iload_n rfl rfl ?_
    refine tl_v1v (c9 := 8) (c_addL l hS h L k (by omega) v) rfl rfl rfl hS.1 rfl (Nat.le_of_ble_eq_true rfl) (fun h1 p1 => ?_)
    refine tl_goto (tgt := 37) rfl rfl ?_
    show jT _ _ 37 _ _ _ _
    refine tl_ret rfl ?_
    -- leaf 1 at 37
    rw [nm_1 (by omega)]
    exact ⟨rfl, p1⟩
set_option maxRecDepth 20000 in
set_option maxHeartbeats 1000000 in
theorem c_addR_lp (l : Launch) {r a n : Nat} (hS : RowS r a n) {r2 a2 n2 : Nat} (hS2 : RowS r2 a2 n2) (hD : Dst r a r2 a2) (h : jH) (L V : List Int) (kV : RL h r2 a2 V) (v2 : V.length ≤ n2) (hn : L.length + V.length ≤ n) (P : Option Value → jH → Prop) (hP : ∀ mem, (RL mem r a (L ++ slc V 0 V.length) ∧ ∀ y, y ≠ r → y ≠ a → mem y = h y) → P none mem) : ∀ (m : Nat) (k : Nat) (mem : jH), V.length - k < m → (k ≤ V.length ∧ RL mem r a (L ++ slc V 0 k) ∧ ∀ y, y ≠ r → y ≠ a → mem y = h y) → jT l 102 2 [some (.ref r), some (.ref r2), some (.int (jI ((k : Int))))] [] mem P := by
  have hle := hS2.le
  intro m
  induction m with
  | zero => intro k mem hk; omega
  | succ m ih =>
    intro k mem hk hi
    obtain ⟨i0, i1, fr⟩ := hi
    have e2 : mem r2 = h r2 := fr r2 (fun e => hD.1 e.symm) (fun e => hD.2.2.1 e.symm)
    have e3 : mem a2 = h a2 := fr a2 (fun e => hD.2.1 e.symm) (fun e => hD.2.2.2 e.symm)
    have el : mem r2 1 = (V.length : Int) := by rw [e2]; exact kV.1
    refine tl_iload_n rfl rfl ?_
    refine tl_aload_n rfl rfl ?_
    refine tl_geti (c := 8) (k9 := 1) rfl hS2.1 rfl ?_
    rw [el]
    refine tl_icmp_ge (tgt := 25) rfl rfl ⟨by omega, by omega⟩ ⟨by omega, by omega⟩ (fun c1 => ?_) (fun c1 => ?_)
    · skip
      refine tl_ret rfl ?_
      -- leaf 0 at 25
      have e : k = V.length := by omega
      rw [e] at i1
      exact hP mem ⟨i1, fr⟩
    · show jT _ _ 10 _ _ _ _
      refine tl_aload_n rfl rfl ?_
      show jT _ _ 11 _ _ _ _
      refine tl_aload_n rfl rfl ?_
      refine tl_iload_n rfl rfl ?_
      refine tl_v1i (c9 := 8) (c_Row_get l hS2 mem (k : Int) (by omega) (by omega) ⟨by omega, by omega⟩) rfl rfl rfl hS2.1 rfl (Nat.le_of_ble_eq_true rfl) (fun z1 h1 p1 => ?_)
      obtain ⟨q1, p1⟩ := p1
      have q1 := q1.symm
      subst q1
      rw [if_pos (by omega), Int.toNat_natCast, e3, kV.2 k (by omega)] at p1
      refine tl_v1v (c9 := 8) (c_addL l hS mem _ i1 (by rw [List.length_append, slc_len]; omega) z1) rfl rfl rfl hS.1 rfl (Nat.le_of_ble_eq_true rfl) (fun h2 p2 => ?_)
      obtain ⟨k2, f2⟩ := p2
      refine tl_iinc rfl rfl rfl ?_
      refine tl_goto (tgt := 2) rfl rfl ?_
      show jT _ _ 2 _ _ _ _
      -- leaf 1 at 2
      refine ih (k + 1) h2 (by omega) ⟨by omega, ?_, fun y y1 y2 => (f2 y y1 y2).trans (fr y y1 y2)⟩
      rw [slc, ← List.append_assoc, Nat.zero_add, ← p1]; exact k2
set_option maxRecDepth 20000 in
set_option maxHeartbeats 1000000 in
theorem c_addR (l : Launch) {r a n : Nat} (hS : RowS r a n) {r2 a2 n2 : Nat} (hS2 : RowS r2 a2 n2) (hD : Dst r a r2 a2) (h : jH) (L V : List Int) (kL : RL h r a L) (kV : RL h r2 a2 V) (v2 : V.length ≤ n2) (hn : L.length + V.length ≤ n) : cV l 102 [.ref r, .ref r2] h (fun h' => RL h' r a (L ++ V) ∧ ∀ y, y ≠ r → y ≠ a → h' y = h y) := by
  refine cV.of rfl rfl ?_
  refine tl_iconst rfl ?_
  refine tl_istore_n rfl (Nat.le_of_ble_eq_true rfl) rfl ?_
  show jT _ _ 2 _ _ _ _
  -- leaf 0 at 2
  refine c_addR_lp l hS hS2 hD h L V kV v2 hn _ (fun mem hi => ⟨rfl, ?_⟩) _ 0 h (Nat.lt_succ_self _) ⟨Nat.zero_le _, by rw [slc, List.append_nil]; exact kL, fun y _ _ => rfl⟩
  rw [slc_all] at hi; exact hi
def OG (h : jH) (o a b : Nat) (g : jH) (n : Nat) : Prop := h o 2 = (n : Int) ∧ ∀ i, i < n → h a i = g 0 i ∧ h b i = g 1 i
theorem OG.of {h h' : jH} {o a b : Nat} {g : jH} {n : Nat} (k : OG h o a b g n) (e0 : h' o = h o) (e1 : h' a = h a) (e2 : h' b = h b) : OG h' o a b g n := ⟨by rw [e0]; exact k.1, fun i hi => by rw [e1, e2]; exact k.2 i hi⟩
theorem k_plA (l : Launch) {o a b : Nat} (hO : OrS o a b) (h g : jH) (n : Nat) (hg : OG h o a b g n) (hv : OGv g n) (i : Nat) (hi : i < n) : cI l 36 [.ref o, .int (jI (i : Int))] h (fun z h' => h' = h ∧ z = g 0 i) := by
  have n64 := hv.1
  refine (c_Or_placeAt l hO h (i : Int) ⟨by omega, by omega⟩ (by rw [hg.1]; omega) (by rw [hg.1]; omega)).mono (fun z h' q => ⟨q.1, q.2.trans ?_⟩)
  rw [if_pos ⟨by omega, by rw [hg.1]; omega⟩, Int.toNat_natCast]; exact (hg.2 i hi).1
theorem k_vaA (l : Launch) {o a b : Nat} (hO : OrS o a b) (h g : jH) (n : Nat) (hg : OG h o a b g n) (hv : OGv g n) (i : Nat) (hi : i < n) : cI l 37 [.ref o, .int (jI (i : Int))] h (fun z h' => h' = h ∧ z = g 1 i) := by
  have n64 := hv.1
  refine (c_Or_valueAt l hO h (i : Int) ⟨by omega, by omega⟩ (by rw [hg.1]; omega) (by rw [hg.1]; omega)).mono (fun z h' q => ⟨q.1, q.2.trans ?_⟩)
  rw [if_pos ⟨by omega, by rw [hg.1]; omega⟩, Int.toNat_natCast]; exact (hg.2 i hi).2
theorem k_plB (l : Launch) {o a b : Nat} (hO : OrS o a b) (h g : jH) (n : Nat) (hg : OG h o a b g n) (hv : OGv g n) (i : Nat) (hi : i < n) : cI l 36 [.ref o, .int (jI ((i : Int) - 1))] h (fun z h' => h' = h ∧ z = if i = 0 then -1 else g 0 (i - 1)) := by
  have n64 := hv.1
  refine (c_Or_placeAt l hO h ((i : Int) - 1) ⟨by omega, by omega⟩ (by rw [hg.1]; omega) (by rw [hg.1]; omega)).mono (fun z h' q => ⟨q.1, q.2.trans ?_⟩)
  by_cases c : i = 0
  · rw [if_neg (by omega), if_pos c]
  · rw [if_pos ⟨by omega, by rw [hg.1]; omega⟩, if_neg c, show ((i : Int) - 1).toNat = i - 1 by omega]; exact (hg.2 (i - 1) (by omega)).1
set_option maxRecDepth 20000 in
set_option maxHeartbeats 1000000 in
theorem k_goesOn (l : Launch) {o a b : Nat} (hO : OrS o a b) (h g : jH) (n : Nat) (hg : OG h o a b g n) (hv : OGv g n) (i : Nat) (hi : i < n) : cI l 39 [.ref o, .int (jI (i : Int))] h (fun z h' => h' = h ∧ z = zb (gon g i)) := by
  have n64 := hv.1
  have bi := (hv.2 i hi).1
  have bj : i ≠ 0 → -1 ≤ g 0 (i - 1) ∧ g 0 (i - 1) ≤ 63 := fun h0 => (hv.2 (i - 1) (by omega)).1
  have bk : ∀ z : Int, (z = if i = 0 then -1 else g 0 (i - 1)) → -1 ≤ z ∧ z ≤ 63 := fun z hz => by (by_cases c : i = 0; (rw [if_pos c] at hz; omega); (rw [if_neg c] at hz; have := bj c; omega))
  refine cI.ofZ rfl rfl ?_
  refine tl_aload_n rfl rfl ?_
  refine tl_iload_n rfl rfl ?_
  refine tl_iconst rfl ?_
  refine tl_isub rfl ?_
  refine tl_v1i (c9 := 3) (k_plB l hO h g n hg hv i (by omega)) rfl rfl rfl hO.1 rfl (Nat.le_of_ble_eq_true rfl) (fun z1 h1 p1 => ?_)
  obtain ⟨q1, p1⟩ := p1
  have q1 := q1.symm
  subst q1
  have b1 := bk z1 p1
  refine tl_iconst rfl ?_
  show jT _ _ 8 _ _ _ _
  refine tl_icmp_eq (tgt := 32) rfl rfl ⟨by omega, by omega⟩ ⟨by omega, by omega⟩ (fun c1 => ?_) (fun c1 => ?_)
  · skip
    refine tl_iconst rfl ?_
    refine tl_iret rfl ?_
    -- leaf 0 at 33
    refine ⟨_, rfl, by omega, rfl, ?_⟩
    by_cases c : i = 0
    · rw [if_pos c] at p1
      first | (exfalso; omega) | exact (zb_f (gon_f (by omega))).symm
    · rw [if_neg c] at p1
      first | exact (zb_f (gon_f (by omega))).symm | exact (zb_t (gon_t' (by omega))).symm
  · show jT _ _ 11 _ _ _ _
    refine tl_aload_n rfl rfl ?_
    refine tl_iload_n rfl rfl ?_
    refine tl_v1i (c9 := 3) (k_plA l hO h g n hg hv i (by omega)) rfl rfl rfl hO.1 rfl (Nat.le_of_ble_eq_true rfl) (fun z2 h2 p2 => ?_)
    obtain ⟨q2, rfl⟩ := p2
    have q2 := q2.symm
    subst q2
    refine tl_aload_n rfl rfl ?_
    show jT _ _ 17 _ _ _ _
    refine tl_iload_n rfl rfl ?_
    refine tl_iconst rfl ?_
    refine tl_isub rfl ?_
    refine tl_v1i (c9 := 3) (k_plB l hO h g n hg hv i (by omega)) rfl rfl rfl hO.1 rfl (Nat.le_of_ble_eq_true rfl) (fun z3 h3 p3 => ?_)
    obtain ⟨q3, p3⟩ := p3
    have q3 := q3.symm
    subst q3
    rw [← p1] at p3
    subst p3
    refine tl_iconst rfl ?_
    refine tl_iadd rfl ?_
    refine tl_icmp_ne (tgt := 32) rfl rfl ⟨by omega, by omega⟩ ⟨by omega, by omega⟩ (fun c2 => ?_) (fun c2 => ?_)
    · skip
      show jT _ _ 32 _ _ _ _
      refine tl_iconst rfl ?_
      refine tl_iret rfl ?_
      -- leaf 1 at 33
      refine ⟨_, rfl, by omega, rfl, ?_⟩
      by_cases c : i = 0
      · rw [if_pos c] at p1
        first | (exfalso; omega) | exact (zb_f (gon_f (by omega))).symm
      · rw [if_neg c] at p1
        first | exact (zb_f (gon_f (by omega))).symm | exact (zb_t (gon_t' (by omega))).symm
    · show jT _ _ 28 _ _ _ _
      refine tl_iconst rfl ?_
      refine tl_goto (tgt := 33) rfl rfl ?_
      refine tl_iret rfl ?_
      -- leaf 2 at 33
      refine ⟨_, rfl, by omega, rfl, ?_⟩
      by_cases c : i = 0
      · rw [if_pos c] at p1
        first | (exfalso; omega) | exact (zb_f (gon_f (by omega))).symm
      · rw [if_neg c] at p1
        first | exact (zb_f (gon_f (by omega))).symm | exact (zb_t (gon_t' (by omega))).symm
set_option maxRecDepth 20000 in
set_option maxHeartbeats 1000000 in
theorem k_startsP (l : Launch) {o a b : Nat} (hO : OrS o a b) (h g : jH) (n : Nat) (hg : OG h o a b g n) (hv : OGv g n) (i : Nat) (hi : i < n) : cI l 40 [.ref o, .int (jI (i : Int))] h (fun z h' => h' = h ∧ z = zb (bgn g i)) := by
  have n64 := hv.1
  have bi := (hv.2 i hi).1
  refine cI.ofZ rfl rfl ?_
  refine tl_iload_n rfl rfl ?_
  refine tl_if_eq (tgt := 21) rfl rfl ⟨by omega, by omega⟩ (fun c1 => ?_) (fun c1 => ?_)
  · skip
    refine tl_iconst rfl ?_
    refine tl_goto (tgt := 26) rfl rfl ?_
    refine tl_iret rfl ?_
    -- leaf 0 at 26
    refine ⟨_, rfl, by omega, rfl, ?_⟩
    first | exact (zb_t (bgn_t' (Or.inl (by omega)))).symm | exact (zb_t (bgn_t' (Or.inr ⟨by omega, e1⟩))).symm | exact (zb_f (bgn_f (by omega))).symm | exact (zb_f (bgn_f (fun w => by rcases w with w | w; omega; (rw [e1] at w; exact absurd w.2 (by decide))))).symm
  · show jT _ _ 4 _ _ _ _
    refine tl_aload_n rfl rfl ?_
    show jT _ _ 5 _ _ _ _
    refine tl_iload_n rfl rfl ?_
    refine tl_v1i (c9 := 3) (k_plA l hO h g n hg hv i (by omega)) rfl rfl rfl hO.1 rfl (Nat.le_of_ble_eq_true rfl) (fun z1 h1 p1 => ?_)
    obtain ⟨q1, rfl⟩ := p1
    have q1 := q1.symm
    subst q1
    refine tl_iconst rfl ?_
    refine tl_icmp_eq (tgt := 25) rfl rfl ⟨by omega, by omega⟩ ⟨by omega, by omega⟩ (fun c2 => ?_) (fun c2 => ?_)
    · skip
      refine tl_iconst rfl ?_
      refine tl_iret rfl ?_
      -- leaf 1 at 26
      refine ⟨_, rfl, by omega, rfl, ?_⟩
      first | exact (zb_t (bgn_t' (Or.inl (by omega)))).symm | exact (zb_t (bgn_t' (Or.inr ⟨by omega, e1⟩))).symm | exact (zb_f (bgn_f (by omega))).symm | exact (zb_f (bgn_f (fun w => by rcases w with w | w; omega; (rw [e1] at w; exact absurd w.2 (by decide))))).symm
    · show jT _ _ 13 _ _ _ _
      refine tl_aload_n rfl rfl ?_
      show jT _ _ 14 _ _ _ _
      refine tl_iload_n rfl rfl ?_
      refine tl_v1i (c9 := 3) (k_goesOn l hO h g n hg hv i (by omega)) rfl rfl rfl hO.1 rfl (Nat.le_of_ble_eq_true rfl) (fun z2 h2 p2 => ?_)
      obtain ⟨q2, rfl⟩ := p2
      have q2 := q2.symm
      subst q2
      have b2 := zb_b (gon g i)
      refine tl_if_ne (tgt := 25) rfl rfl ⟨by omega, by omega⟩ (fun c3 => ?_) (fun c3 => ?_)
      · skip
        have e1 := zb1 c3
        refine tl_iconst rfl ?_
        refine tl_iret rfl ?_
        -- leaf 2 at 26
        refine ⟨_, rfl, by omega, rfl, ?_⟩
        first | exact (zb_t (bgn_t' (Or.inl (by omega)))).symm | exact (zb_t (bgn_t' (Or.inr ⟨by omega, e1⟩))).symm | exact (zb_f (bgn_f (by omega))).symm | exact (zb_f (bgn_f (fun w => by rcases w with w | w; omega; (rw [e1] at w; exact absurd w.2 (by decide))))).symm
      · show jT _ _ 21 _ _ _ _
        have e1 := zb0' c3
        refine tl_iconst rfl ?_
        refine tl_goto (tgt := 26) rfl rfl ?_
        show jT _ _ 26 _ _ _ _
        refine tl_iret rfl ?_
        -- leaf 3 at 26
        refine ⟨_, rfl, by omega, rfl, ?_⟩
        first | exact (zb_t (bgn_t' (Or.inl (by omega)))).symm | exact (zb_t (bgn_t' (Or.inr ⟨by omega, e1⟩))).symm | exact (zb_f (bgn_f (by omega))).symm | exact (zb_f (bgn_f (fun w => by rcases w with w | w; omega; (rw [e1] at w; exact absurd w.2 (by decide))))).symm
set_option maxRecDepth 20000 in
set_option maxHeartbeats 1000000 in
theorem k_cnt_lp (l : Launch) {o a b : Nat} (hO : OrS o a b) (h g : jH) (n : Nat) (hg : OG h o a b g n) (hv : OGv g n) (P : Option Value → jH → Prop) (hP : P (some (.int (jI (ptn g n)))) h) : ∀ (m : Nat) (k : Nat), n - k < m → (k ≤ n) → jT l 41 4 [some (.ref o), some (.int (jI (ptn g k))), some (.int (jI ((k : Int))))] [] h P := by
  have n64 := hv.1
  intro m
  induction m with
  | zero => intro k hk; omega
  | succ m ih =>
    intro k hk hi
    have pb := ptn_b (g := g) k
    refine tl_iload_n rfl rfl ?_
    refine tl_aload_n rfl rfl ?_
    refine tl_geti (c := 3) (k9 := 2) rfl hO.1 rfl ?_
    rw [hg.1]
    refine tl_icmp_ge (tgt := 29) rfl rfl ⟨by omega, by omega⟩ ⟨by omega, by omega⟩ (fun c1 => ?_) (fun c1 => ?_)
    · skip
      refine tl_iload_n rfl rfl ?_
      refine tl_iret rfl ?_
      -- leaf 0 at 30
      have e : k = n := by omega
      rw [e]
      exact hP
    · show jT _ _ 12 _ _ _ _
      show jT _ _ 12 _ _ _ _
      refine tl_aload_n rfl rfl ?_
      refine tl_iload_n rfl rfl ?_
      refine tl_v1i (c9 := 3) (k_startsP l hO h g n hg hv k (by omega)) rfl rfl rfl hO.1 rfl (Nat.le_of_ble_eq_true rfl) (fun z1 h1 p1 => ?_)
      obtain ⟨q1, rfl⟩ := p1
      have q1 := q1.symm
      subst q1
      have b1 := zb_b (bgn g k)
      refine tl_if_eq (tgt := 23) rfl rfl ⟨by omega, by omega⟩ (fun c2 => ?_) (fun c2 => ?_)
      · skip
        have e1 := zb0 c2
        refine tl_iinc rfl rfl rfl ?_
        refine tl_goto (tgt := 4) rfl rfl ?_
        show jT _ _ 4 _ _ _ _
        -- leaf 1 at 4
        refine jT.loc ?_ (ih (k + 1) (by omega) (by omega))
        first | (rw [ptn_s, zb_t e1]; rfl) | (rw [ptn_s, zb_f e1, Int.add_zero]; rfl)
      · show jT _ _ 20 _ _ _ _
        have e1 := zb1' c2
        refine tl_iinc rfl rfl rfl ?_
        show jT _ _ 23 _ _ _ _
        refine tl_iinc rfl rfl rfl ?_
        refine tl_goto (tgt := 4) rfl rfl ?_
        show jT _ _ 4 _ _ _ _
        -- leaf 2 at 4
        refine jT.loc ?_ (ih (k + 1) (by omega) (by omega))
        first | (rw [ptn_s, zb_t e1]; rfl) | (rw [ptn_s, zb_f e1, Int.add_zero]; rfl)
set_option maxRecDepth 20000 in
set_option maxHeartbeats 1000000 in
theorem k_countP (l : Launch) {o a b : Nat} (hO : OrS o a b) (h g : jH) (n : Nat) (hg : OG h o a b g n) (hv : OGv g n) : cI l 41 [.ref o] h (fun z h' => h' = h ∧ z = ptn g n) := by
  refine cI.of rfl rfl ?_
  refine tl_iconst rfl ?_
  refine tl_istore_n rfl (Nat.le_of_ble_eq_true rfl) rfl ?_
  refine tl_iconst rfl ?_
  refine tl_istore_n rfl (Nat.le_of_ble_eq_true rfl) rfl ?_
  show jT _ _ 4 _ _ _ _
  -- leaf 0 at 4
  exact k_cnt_lp l hO h g n hg hv _ ⟨_, rfl, rfl, rfl⟩ _ 0 (Nat.lt_succ_self _) (Nat.zero_le _)
set_option maxRecDepth 20000 in
set_option maxHeartbeats 1000000 in
theorem k_cps_lp (l : Launch) {o a b : Nat} (hO : OrS o a b) (h g : jH) (n : Nat) (hg : OG h o a b g n) (hv : OGv g n) (i : Nat) (hi : i < n) (h1 : g 0 i ≠ -1) (P : Option Value → jH → Prop) (hP : P (some (.int (jI (cps g n i : Int)))) h) : ∀ (m : Nat) (k : Nat), n - k < m → (i + 1 + k ≤ n ∧ ∀ j, j < k → cpP g n i j = true) → jT l 42 15 [some (.ref o), some (.int (jI ((i : Int)))), some (.int (jI ((i : Int) + 1 + (k : Int))))] [] h P := by
  have n64 := hv.1
  intro m
  induction m with
  | zero => intro k hk; omega
  | succ m ih =>
    intro k hk hi
    obtain ⟨i0, i1⟩ := hi
    refine tl_iload_n rfl rfl ?_
    refine tl_aload_n rfl rfl ?_
    refine tl_geti (c := 3) (k9 := 2) rfl hO.1 rfl ?_
    rw [hg.1]
    refine tl_icmp_ge (tgt := 37) rfl rfl ⟨by omega, by omega⟩ ⟨by omega, by omega⟩ (fun c1 => ?_) (fun c1 => ?_)
    · skip
      refine tl_iload_n rfl rfl ?_
      refine tl_iload_n rfl rfl ?_
      show jT _ _ 39 _ _ _ _
      refine tl_isub rfl ?_
      refine tl_iret rfl ?_
      -- leaf 0 at 40
      have e : cps g n i = k + 1 := by rw [cps, if_neg h1, fst_uniq (Nat.zero_le _) (by omega) (fun q _ hq => i1 q hq) (by first | exact cpP_f1 (by omega) | exact cpP_f2 e1)]
      rw [e] at hP
      first | rw [show (i : Int) + 1 + (k : Int) - (i : Int) = ((k + 1 : Nat) : Int) by omega] | rw [show ((i + 1 + k : Nat) : Int) - (i : Int) = ((k + 1 : Nat) : Int) by omega]
      exact hP
    · show jT _ _ 23 _ _ _ _
      refine tl_aload_n rfl rfl ?_
      refine tl_iload_n rfl rfl ?_
      rw [show (i : Int) + 1 + (k : Int) = ((i + 1 + k : Nat) : Int) by omega]
      refine tl_v1i (c9 := 3) (k_goesOn l hO h g n hg hv (i + 1 + k) (by omega)) rfl rfl rfl hO.1 rfl (Nat.le_of_ble_eq_true rfl) (fun z1 h1 p1 => ?_)
      obtain ⟨q1, rfl⟩ := p1
      have q1 := q1.symm
      subst q1
      have b1 := zb_b (gon g (i + 1 + k))
      refine tl_if_eq (tgt := 37) rfl rfl ⟨by omega, by omega⟩ (fun c2 => ?_) (fun c2 => ?_)
      · skip
        have e1 := zb0 c2
        refine tl_iload_n rfl rfl ?_
        show jT _ _ 38 _ _ _ _
        refine tl_iload_n rfl rfl ?_
        refine tl_isub rfl ?_
        refine tl_iret rfl ?_
        -- leaf 1 at 40
        have e : cps g n i = k + 1 := by rw [cps, if_neg h1, fst_uniq (Nat.zero_le _) (by omega) (fun q _ hq => i1 q hq) (by first | exact cpP_f1 (by omega) | exact cpP_f2 e1)]
        rw [e] at hP
        first | rw [show (i : Int) + 1 + (k : Int) - (i : Int) = ((k + 1 : Nat) : Int) by omega] | rw [show ((i + 1 + k : Nat) : Int) - (i : Int) = ((k + 1 : Nat) : Int) by omega]
        exact hP
      · show jT _ _ 31 _ _ _ _
        have e1 := zb1' c2
        refine tl_iinc rfl rfl rfl ?_
        refine tl_goto (tgt := 15) rfl rfl ?_
        show jT _ _ 15 _ _ _ _
        -- leaf 2 at 15
        refine jT.loc ?_ (ih (k + 1) (by omega) ⟨by omega, fun q hq => by by_cases c : q = k; (subst c; exact cpP_t' (by omega) e1); exact i1 q (by omega)⟩)
        rw [show (i : Int) + 1 + ((k + 1 : Nat) : Int) = ((i + 1 + k : Nat) : Int) + 1 by omega]
        rfl
set_option maxRecDepth 20000 in
set_option maxHeartbeats 1000000 in
theorem k_copyS (l : Launch) {o a b : Nat} (hO : OrS o a b) (h g : jH) (n : Nat) (hg : OG h o a b g n) (hv : OGv g n) (i : Nat) (hi : i < n) : cI l 42 [.ref o, .int (jI (i : Int))] h (fun z h' => h' = h ∧ z = (cps g n i : Int)) := by
  have n64 := hv.1
  have bi := (hv.2 i hi).1
  refine cI.of rfl rfl ?_
  refine tl_aload_n rfl rfl ?_
  refine tl_iload_n rfl rfl ?_
  refine tl_v1i (c9 := 3) (k_plA l hO h g n hg hv i (by omega)) rfl rfl rfl hO.1 rfl (Nat.le_of_ble_eq_true rfl) (fun z1 h1 p1 => ?_)
  obtain ⟨q1, rfl⟩ := p1
  have q1 := q1.symm
  subst q1
  refine tl_iconst rfl ?_
  refine tl_icmp_ne (tgt := 11) rfl rfl ⟨by omega, by omega⟩ ⟨by omega, by omega⟩ (fun c1 => ?_) (fun c1 => ?_)
  · skip
    refine tl_iload_n rfl rfl ?_
    show jT _ _ 12 _ _ _ _
    refine tl_iconst rfl ?_
    refine tl_iadd rfl ?_
    refine tl_istore_n rfl (Nat.le_of_ble_eq_true rfl) rfl ?_
    show jT _ _ 15 _ _ _ _
    -- leaf 0 at 15
    refine jT.loc ?_ (k_cps_lp l hO h g n hg hv i hi (by omega) _ ⟨_, rfl, rfl, rfl⟩ _ 0 (Nat.lt_succ_self _) ⟨by omega, fun j hj => by omega⟩)
    rw [show (i : Int) + 1 + ((0 : Nat) : Int) = (i : Int) + 1 by omega]
    rfl
  · show jT _ _ 9 _ _ _ _
    refine tl_iconst rfl ?_
    refine tl_iret rfl ?_
    -- leaf 1 at 10
    exact ⟨_, rfl, rfl, by rw [cps_0 (by omega)]; rfl⟩
set_option maxRecDepth 20000 in
set_option maxHeartbeats 1000000 in
theorem k_exs_lp (l : Launch) {o a b : Nat} (hO : OrS o a b) (h g : jH) (n : Nat) (hg : OG h o a b g n) (hv : OGv g n) (i : Nat) (hi : i ≤ n) (P : Option Value → jH → Prop) (hP : P (some (.int (jI (exs g n i : Int)))) h) : ∀ (m : Nat) (k : Nat), n - k < m → (i + k ≤ n ∧ ∀ j, j < k → exP g n i j = true) → jT l 43 2 [some (.ref o), some (.int (jI ((i : Int)))), some (.int (jI ((i : Int) + (k : Int))))] [] h P := by
  have n64 := hv.1
  intro m
  induction m with
  | zero => intro k hk; omega
  | succ m ih =>
    intro k hk hi
    obtain ⟨i0, i1⟩ := hi
    refine tl_iload_n rfl rfl ?_
    refine tl_aload_n rfl rfl ?_
    refine tl_geti (c := 3) (k9 := 2) rfl hO.1 rfl ?_
    rw [hg.1]
    refine tl_icmp_ge (tgt := 25) rfl rfl ⟨by omega, by omega⟩ ⟨by omega, by omega⟩ (fun c1 => ?_) (fun c1 => ?_)
    · skip
      refine tl_iload_n rfl rfl ?_
      refine tl_iload_n rfl rfl ?_
      show jT _ _ 27 _ _ _ _
      refine tl_isub rfl ?_
      refine tl_iret rfl ?_
      -- leaf 0 at 28
      have e : exs g n i = k := fst_uniq (Nat.zero_le _) (by omega) (fun q _ hq => i1 q hq) (by first | exact exP_f2 (by omega) | exact exP_f1 (by omega))
      rw [e] at hP
      first | rw [show (i : Int) + (k : Int) - (i : Int) = (k : Int) by omega] | rw [show ((i + k : Nat) : Int) - (i : Int) = (k : Int) by omega]
      exact hP
    · show jT _ _ 10 _ _ _ _
      have bk := (hv.2 (i + k) (by omega)).1
      refine tl_aload_n rfl rfl ?_
      refine tl_iload_n rfl rfl ?_
      rw [show (i : Int) + (k : Int) = ((i + k : Nat) : Int) by omega]
      refine tl_v1i (c9 := 3) (k_plA l hO h g n hg hv (i + k) (by omega)) rfl rfl rfl hO.1 rfl (Nat.le_of_ble_eq_true rfl) (fun z1 h1 p1 => ?_)
      obtain ⟨q1, rfl⟩ := p1
      have q1 := q1.symm
      subst q1
      refine tl_iconst rfl ?_
      refine tl_icmp_ne (tgt := 25) rfl rfl ⟨by omega, by omega⟩ ⟨by omega, by omega⟩ (fun c2 => ?_) (fun c2 => ?_)
      · skip
        show jT _ _ 25 _ _ _ _
        refine tl_iload_n rfl rfl ?_
        refine tl_iload_n rfl rfl ?_
        refine tl_isub rfl ?_
        refine tl_iret rfl ?_
        -- leaf 1 at 28
        have e : exs g n i = k := fst_uniq (Nat.zero_le _) (by omega) (fun q _ hq => i1 q hq) (by first | exact exP_f2 (by omega) | exact exP_f1 (by omega))
        rw [e] at hP
        first | rw [show (i : Int) + (k : Int) - (i : Int) = (k : Int) by omega] | rw [show ((i + k : Nat) : Int) - (i : Int) = (k : Int) by omega]
        exact hP
      · show jT _ _ 19 _ _ _ _
        refine tl_iinc rfl rfl rfl ?_
        refine tl_goto (tgt := 2) rfl rfl ?_
        show jT _ _ 2 _ _ _ _
        -- leaf 2 at 2
        refine jT.loc ?_ (ih (k + 1) (by omega) ⟨by omega, fun q hq => by by_cases c : q = k; (subst c; exact exP_t' (by omega) (by omega)); exact i1 q (by omega)⟩)
        rw [show (i : Int) + ((k + 1 : Nat) : Int) = ((i + k : Nat) : Int) + 1 by omega]
        rfl
set_option maxRecDepth 20000 in
set_option maxHeartbeats 1000000 in
theorem k_extraS (l : Launch) {o a b : Nat} (hO : OrS o a b) (h g : jH) (n : Nat) (hg : OG h o a b g n) (hv : OGv g n) (i : Nat) (hi : i ≤ n) : cI l 43 [.ref o, .int (jI (i : Int))] h (fun z h' => h' = h ∧ z = (exs g n i : Int)) := by
  refine cI.of rfl rfl ?_
  refine tl_iload_n rfl rfl ?_
  refine tl_istore_n rfl (Nat.le_of_ble_eq_true rfl) rfl ?_
  show jT _ _ 2 _ _ _ _
  -- leaf 0 at 2
  refine jT.loc ?_ (k_exs_lp l hO h g n hg hv i hi _ ⟨_, rfl, rfl, rfl⟩ _ 0 (Nat.lt_succ_self _) ⟨by omega, fun j hj => by omega⟩)
  rw [show (i : Int) + ((0 : Nat) : Int) = (i : Int) by omega]
  rfl
