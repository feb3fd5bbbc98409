/-! Origins; the anchors of the walked file: addAnchor, alikeOnLatest, choose, worth, reaches -/
def OrS (o a b : Nat) : Prop := sk o = 3 ∧ sr o 0 = a ∧ sr o 1 = b ∧ sk a = 13 ∧ sl a = 64 ∧ sk b = 13 ∧ sl b = 64 ∧ a ≠ b
theorem OrS.oa {o a b : Nat} (h : OrS o a b) : o ≠ a := fun e => by have h1 := h.1; have h2 := h.2.2.2.1; rw [← e] at h2; omega
theorem OrS.ob {o a b : Nat} (h : OrS o a b) : o ≠ b := fun e => by have h1 := h.1; have h2 := h.2.2.2.2.2.1; rw [← e] at h2; omega
theorem Or325 : OrS 325 326 327 := ⟨rfl, rfl, rfl, rfl, rfl, rfl, rfl, by decide⟩
theorem Or345 : OrS 345 346 347 := ⟨rfl, rfl, rfl, rfl, rfl, rfl, rfl, by decide⟩
theorem Or383 : OrS 383 384 385 := ⟨rfl, rfl, rfl, rfl, rfl, rfl, rfl, by decide⟩
set_option maxRecDepth 20000 in
set_option maxHeartbeats 1000000 in
theorem c_Or_add (l : Launch) {o a b : Nat} (hO : OrS o a b) (h : jH) (x v : Int) (h0 : 0 ≤ h o 2) (h1 : h o 2 < 64) : cV l 33 [.ref o, .int (jI x), .int (jI v)] h (fun h' => h' = hs (hs (hs h a (h o 2).toNat x) b (h o 2).toNat v) o 2 (h o 2 + 1)) := by
  have na := hO.oa
  have nb := hO.ob
  refine cV.of rfl rfl ?_
  refine tl_aload_n rfl rfl ?_
  refine tl_geti (c := 3) (k9 := 2) rfl hO.1 rfl ?_
  refine tl_if_lt (tgt := 46) rfl rfl ⟨by omega, by omega⟩ (fun c1 => ?_) (fun c1 => ?_)
  · skip
    refine tl_ret rfl ?_
    -- leaf 0 at 46
    first
      | (exfalso; omega)
      | (exact ⟨rfl, rfl⟩)
  · show jT _ _ 7 _ _ _ _
    refine tl_aload_n rfl rfl ?_
    refine tl_geti (c := 3) (k9 := 2) rfl hO.1 rfl ?_
    show jT _ _ 11 _ _ _ _
    refine tl_bipush rfl rfl ?_
    refine tl_icmp_ge (tgt := 46) rfl rfl ⟨by omega, by omega⟩ ⟨by omega, by omega⟩ (fun c2 => ?_) (fun c2 => ?_)
    · skip
      refine tl_ret rfl ?_
      -- leaf 1 at 46
      first
        | (exfalso; omega)
        | (exact ⟨rfl, rfl⟩)
    · show jT _ _ 16 _ _ _ _
      refine tl_aload_n rfl rfl ?_
      refine tl_getr (c := 3) (k9 := 0) rfl hO.1 rfl hO.2.1 ?_
      refine tl_aload_n rfl rfl ?_
      refine tl_geti (c := 3) (k9 := 2) rfl hO.1 rfl ?_
      show jT _ _ 24 _ _ _ _
      refine tl_iload_n rfl rfl ?_
      refine tl_iast rfl hO.2.2.2.1 hO.2.2.2.2.1 (by omega) (by omega) ?_
      refine tl_aload_n rfl rfl ?_
      refine tl_getr (c := 3) (k9 := 1) rfl hO.1 rfl hO.2.2.1 ?_
      refine tl_aload_n rfl rfl ?_
      refine tl_geti (c := 3) (k9 := 2) rfl hO.1 rfl ?_
      rw [hs_o na]
      refine tl_iload_n rfl rfl ?_
      show jT _ _ 35 _ _ _ _
      refine tl_iast rfl hO.2.2.2.2.2.1 hO.2.2.2.2.2.2.1 (by omega) (by omega) ?_
      refine tl_aload_n rfl rfl ?_
      refine tl_dup rfl rfl ?_
      refine tl_geti (c := 3) (k9 := 2) rfl hO.1 rfl ?_
      rw [hs_o nb, hs_o na]
      refine tl_iconst rfl ?_
      refine tl_iadd rfl ?_
      refine tl_puti (c := 3) (k9 := 2) rfl rfl hO.1 rfl ?_
      show jT _ _ 46 _ _ _ _
      refine tl_ret rfl ?_
      -- leaf 2 at 46
      first
        | (exfalso; omega)
        | (exact ⟨rfl, rfl⟩)
set_option maxRecDepth 20000 in
set_option maxHeartbeats 1000000 in
theorem c_Or_change (l : Launch) {o a b : Nat} (hO : OrS o a b) (h : jH) (i x v : Int) (i0 : 0 ≤ i) (i1 : i < h o 2) (h1 : h o 2 ≤ 64) : cV l 35 [.ref o, .int (jI i), .int (jI x), .int (jI v)] h (fun h' => h' = hs (hs h a i.toNat x) b i.toNat v) := by
  refine cV.of rfl rfl ?_
  refine tl_iload_n rfl rfl ?_
  refine tl_if_lt (tgt := 32) rfl rfl ⟨by omega, by omega⟩ (fun c1 => ?_) (fun c1 => ?_)
  · skip
    refine tl_ret rfl ?_
    -- leaf 0 at 32
    first
      | (exfalso; omega)
      | (exact ⟨rfl, rfl⟩)
  · show jT _ _ 4 _ _ _ _
    refine tl_iload_n rfl rfl ?_
    refine tl_aload_n rfl rfl ?_
    refine tl_geti (c := 3) (k9 := 2) rfl hO.1 rfl ?_
    show jT _ _ 9 _ _ _ _
    refine tl_icmp_ge (tgt := 32) rfl rfl ⟨by omega, by omega⟩ ⟨by omega, by omega⟩ (fun c2 => ?_) (fun c2 => ?_)
    · skip
      refine tl_ret rfl ?_
      -- leaf 1 at 32
      first
        | (exfalso; omega)
        | (exact ⟨rfl, rfl⟩)
    · show jT _ _ 12 _ _ _ _
      refine tl_iload_n rfl rfl ?_
      refine tl_bipush rfl rfl ?_
      refine tl_icmp_ge (tgt := 32) rfl rfl ⟨by omega, by omega⟩ ⟨by omega, by omega⟩ (fun c3 => ?_) (fun c3 => ?_)
      · skip
        refine tl_ret rfl ?_
        -- leaf 2 at 32
        first
          | (exfalso; omega)
          | (exact ⟨rfl, rfl⟩)
      · show jT _ _ 18 _ _ _ _
        refine tl_aload_n rfl rfl ?_
        show jT _ _ 19 _ _ _ _
        refine tl_getr (c := 3) (k9 := 0) rfl hO.1 rfl hO.2.1 ?_
        refine tl_iload_n rfl rfl ?_
        refine tl_iload_n rfl rfl ?_
        refine tl_iast rfl hO.2.2.2.1 hO.2.2.2.2.1 (by omega) (by omega) ?_
        refine tl_aload_n rfl rfl ?_
        refine tl_getr (c := 3) (k9 := 1) rfl hO.1 rfl hO.2.2.1 ?_
        refine tl_iload_n rfl rfl ?_
        show jT _ _ 30 _ _ _ _
        refine tl_iload_n rfl rfl ?_
        refine tl_iast rfl hO.2.2.2.2.2.1 hO.2.2.2.2.2.2.1 (by omega) (by omega) ?_
        refine tl_ret rfl ?_
        -- leaf 3 at 32
        first
          | (exfalso; omega)
          | (exact ⟨rfl, rfl⟩)
set_option maxRecDepth 20000 in
set_option maxHeartbeats 1000000 in
theorem c_Or_placeAt (l : Launch) {o a b : Nat} (hO : OrS o a b) (h : jH) (i : Int) (hi : jr i) (h0 : 0 ≤ h o 2) (h1 : h o 2 ≤ 64) : cI l 36 [.ref o, .int (jI i)] h (fun z h' => h' = h ∧ z = if 0 ≤ i ∧ i < h o 2 then h a i.toNat else -1) := by
  have i1 := hi.1
  have i2 := hi.2
  refine cI.of rfl rfl ?_
  refine tl_iload_n rfl rfl ?_
  refine tl_if_lt (tgt := 18) rfl rfl ⟨by omega, by omega⟩ (fun c1 => ?_) (fun c1 => ?_)
  · skip
    refine tl_iconst rfl ?_
    refine tl_goto (tgt := 28) rfl rfl ?_
    refine tl_iret rfl ?_
    -- leaf 0 at 28
    first
      | (exfalso; omega)
      | (refine ⟨_, rfl, rfl, ?_⟩; rw [if_pos (by omega)])
      | (refine ⟨_, rfl, rfl, ?_⟩; rw [if_neg (by omega)])
  · show jT _ _ 4 _ _ _ _
    refine tl_iload_n rfl rfl ?_
    show jT _ _ 5 _ _ _ _
    refine tl_aload_n rfl rfl ?_
    refine tl_geti (c := 3) (k9 := 2) rfl hO.1 rfl ?_
    refine tl_icmp_ge (tgt := 18) rfl rfl ⟨by omega, by omega⟩ ⟨by omega, by omega⟩ (fun c2 => ?_) (fun c2 => ?_)
    · skip
      refine tl_iconst rfl ?_
      refine tl_goto (tgt := 28) rfl rfl ?_
      refine tl_iret rfl ?_
      -- leaf 1 at 28
      first
        | (exfalso; omega)
        | (refine ⟨_, rfl, rfl, ?_⟩; rw [if_pos (by omega)])
        | (refine ⟨_, rfl, rfl, ?_⟩; rw [if_neg (by omega)])
    · show jT _ _ 12 _ _ _ _
      refine tl_iload_n rfl rfl ?_
      show jT _ _ 13 _ _ _ _
      refine tl_bipush rfl rfl ?_
      refine tl_icmp_lt (tgt := 22) rfl rfl ⟨by omega, by omega⟩ ⟨by omega, by omega⟩ (fun c3 => ?_) (fun c3 => ?_)
      · skip
        refine tl_aload_n rfl rfl ?_
        refine tl_getr (c := 3) (k9 := 0) rfl hO.1 rfl hO.2.1 ?_
        refine tl_iload_n rfl rfl ?_
        refine tl_iald rfl hO.2.2.2.1 hO.2.2.2.2.1 (by omega) (by omega) ?_
        refine tl_iret rfl ?_
        -- leaf 2 at 28
        first
          | (exfalso; omega)
          | (refine ⟨_, rfl, rfl, ?_⟩; rw [if_pos (by omega)])
          | (refine ⟨_, rfl, rfl, ?_⟩; rw [if_neg (by omega)])
      · show jT _ _ 18 _ _ _ _
        show jT _ _ 18 _ _ _ _
        refine tl_iconst rfl ?_
        refine tl_goto (tgt := 28) rfl rfl ?_
        refine tl_iret rfl ?_
        -- leaf 3 at 28
        first
          | (exfalso; omega)
          | (refine ⟨_, rfl, rfl, ?_⟩; rw [if_pos (by omega)])
          | (refine ⟨_, rfl, rfl, ?_⟩; rw [if_neg (by omega)])
set_option maxRecDepth 20000 in
set_option maxHeartbeats 1000000 in
theorem c_Or_valueAt (l : Launch) {o a b : Nat} (hO : OrS o a b) (h : jH) (i : Int) (hi : jr i) (h0 : 0 ≤ h o 2) (h1 : h o 2 ≤ 64) : cI l 37 [.ref o, .int (jI i)] h (fun z h' => h' = h ∧ z = if 0 ≤ i ∧ i < h o 2 then h b i.toNat else -1) := by
  have i1 := hi.1
  have i2 := hi.2
  refine cI.of rfl rfl ?_
  refine tl_iload_n rfl rfl ?_
  refine tl_if_lt (tgt := 18) rfl rfl ⟨by omega, by omega⟩ (fun c1 => ?_) (fun c1 => ?_)
  · skip
    refine tl_iconst rfl ?_
    refine tl_goto (tgt := 28) rfl rfl ?_
    refine tl_iret rfl ?_
    -- leaf 0 at 28
    first
      | (exfalso; omega)
      | (refine ⟨_, rfl, rfl, ?_⟩; rw [if_pos (by omega)])
      | (refine ⟨_, rfl, rfl, ?_⟩; rw [if_neg (by omega)])
  · show jT _ _ 4 _ _ _ _
    refine tl_iload_n rfl rfl ?_
    show jT _ _ 5 _ _ _ _
    refine tl_aload_n rfl rfl ?_
    refine tl_geti (c := 3) (k9 := 2) rfl hO.1 rfl ?_
    refine tl_icmp_ge (tgt := 18) rfl rfl ⟨by omega, by omega⟩ ⟨by omega, by omega⟩ (fun c2 => ?_) (fun c2 => ?_)
    · skip
      refine tl_iconst rfl ?_
      refine tl_goto (tgt := 28) rfl rfl ?_
      refine tl_iret rfl ?_
      -- leaf 1 at 28
      first
        | (exfalso; omega)
        | (refine ⟨_, rfl, rfl, ?_⟩; rw [if_pos (by omega)])
        | (refine ⟨_, rfl, rfl, ?_⟩; rw [if_neg (by omega)])
    · show jT _ _ 12 _ _ _ _
      refine tl_iload_n rfl rfl ?_
      show jT _ _ 13 _ _ _ _
      refine tl_bipush rfl rfl ?_
      refine tl_icmp_lt (tgt := 22) rfl rfl ⟨by omega, by omega⟩ ⟨by omega, by omega⟩ (fun c3 => ?_) (fun c3 => ?_)
      · skip
        refine tl_aload_n rfl rfl ?_
        refine tl_getr (c := 3) (k9 := 1) rfl hO.1 rfl hO.2.2.1 ?_
        refine tl_iload_n rfl rfl ?_
        refine tl_iald rfl hO.2.2.2.2.2.1 hO.2.2.2.2.2.2.1 (by omega) (by omega) ?_
        refine tl_iret rfl ?_
        -- leaf 2 at 28
        first
          | (exfalso; omega)
          | (refine ⟨_, rfl, rfl, ?_⟩; rw [if_pos (by omega)])
          | (refine ⟨_, rfl, rfl, ?_⟩; rw [if_neg (by omega)])
      · show jT _ _ 18 _ _ _ _
        show jT _ _ 18 _ _ _ _
        refine tl_iconst rfl ?_
        refine tl_goto (tgt := 28) rfl rfl ?_
        refine tl_iret rfl ?_
        -- leaf 3 at 28
        first
          | (exfalso; omega)
          | (refine ⟨_, rfl, rfl, ?_⟩; rw [if_pos (by omega)])
          | (refine ⟨_, rfl, rfl, ?_⟩; rw [if_neg (by omega)])
set_option maxRecDepth 20000 in
set_option maxHeartbeats 1000000 in
theorem k_addAnchor (l : Launch) (h : jH) (n : Nat) (hn : h 319 5 = (n : Int)) (n64 : n < 64) (s p z : Int) : cV l 2 [.ref 319, .int (jI s), .int (jI p), .int (jI z)] h (fun h' => h' = hs (hs (hs (hs h 320 n s) 321 n p) 322 n z) 319 5 ((n + 1 : Nat) : Int)) := by
  refine cV.of rfl rfl ?_
  refine tl_aload_n rfl rfl ?_
  refine tl_geti (c := 0) (k9 := 5) rfl rfl rfl ?_
  rw [hn]
  refine tl_if_lt (tgt := 56) rfl rfl ⟨by omega, by omega⟩ (fun c1 => ?_) (fun c1 => ?_)
  · skip
    refine tl_ret rfl ?_
    -- leaf 0 at 56
    first
      | (exfalso; omega)
      | (exact ⟨rfl, rfl⟩)
  · show jT _ _ 7 _ _ _ _
    refine tl_aload_n rfl rfl ?_
    refine tl_geti (c := 0) (k9 := 5) rfl rfl rfl ?_
    rw [hn]
    show jT _ _ 11 _ _ _ _
    refine tl_bipush rfl rfl ?_
    refine tl_icmp_ge (tgt := 56) rfl rfl ⟨by omega, by omega⟩ ⟨by omega, by omega⟩ (fun c2 => ?_) (fun c2 => ?_)
    · skip
      refine tl_ret rfl ?_
      -- leaf 1 at 56
      first
        | (exfalso; omega)
        | (exact ⟨rfl, rfl⟩)
    · show jT _ _ 16 _ _ _ _
      refine tl_aload_n rfl rfl ?_
      refine tl_getr (c := 0) (k9 := 0) (b := 320) rfl rfl rfl rfl ?_
      refine tl_aload_n rfl rfl ?_
      refine tl_geti (c := 0) (k9 := 5) rfl rfl rfl ?_
      rw [hn]
      show jT _ _ 24 _ _ _ _
      refine tl_iload_n rfl rfl ?_
      refine tl_iast (n := 64) rfl rfl rfl (by omega) (by omega) ?_
      refine tl_aload_n rfl rfl ?_
      refine tl_getr (c := 0) (k9 := 1) (b := 321) rfl rfl rfl rfl ?_
      refine tl_aload_n rfl rfl ?_
      refine tl_geti (c := 0) (k9 := 5) rfl rfl rfl ?_
      rw [hs_o (by decide), hn]
      refine tl_iload_n rfl rfl ?_
      show jT _ _ 35 _ _ _ _
      refine tl_iast (n := 64) rfl rfl rfl (by omega) (by omega) ?_
      refine tl_aload_n rfl rfl ?_
      refine tl_getr (c := 0) (k9 := 2) (b := 322) rfl rfl rfl rfl ?_
      refine tl_aload_n rfl rfl ?_
      refine tl_geti (c := 0) (k9 := 5) rfl rfl rfl ?_
      rw [hs_o (by decide), hs_o (by decide), hn]
      refine tl_iload_n rfl rfl ?_
      refine tl_iast (n := 64) rfl rfl rfl (by omega) (by omega) ?_
      show jT _ _ 46 _ _ _ _
      refine tl_aload_n rfl rfl ?_
      refine tl_dup rfl rfl ?_
      refine tl_geti (c := 0) (k9 := 5) rfl rfl rfl ?_
      rw [hs_o (by decide), hs_o (by decide), hs_o (by decide), hn]
      refine tl_iconst rfl ?_
      refine tl_iadd rfl ?_
      refine tl_puti (c := 0) (k9 := 5) rfl rfl rfl rfl ?_
      refine tl_ret rfl ?_
      -- leaf 2 at 56
      first
        | (exfalso; omega)
        | (exact ⟨rfl, rfl⟩)
set_option maxRecDepth 20000 in
set_option maxHeartbeats 1000000 in
theorem k_alc_lp (l : Launch) (h : jH) (R : Nat → Int) (hR : RS h 1 R) (T : jH) (n : Nat) (hn : h 319 5 = (n : Int)) (n1 : 1 ≤ n) (n64 : n ≤ 64) (e0 : h 320 (n - 1) = T 0 (n - 1)) (e1 : h 321 (n - 1) = T 1 (n - 1)) (b0 : 0 ≤ T 0 (n - 1) ∧ T 0 (n - 1) ≤ 64) (b1 : 0 ≤ T 1 (n - 1) ∧ T 1 (n - 1) ≤ 64) (s : Int) (z : Nat) (s0 : 0 ≤ s) (s64 : s ≤ 64) (z64 : z ≤ 64) (P : Option Value → jH → Prop) (hP : P (some (.int (jI (alc R T n s z)))) h) : ∀ (m : Nat) (k : Nat), z - k < m → (k ≤ z) → jT l 4 45 [some (.ref 319), some (.ref 1), some (.int (jI (s))), some (.int (jI ((z : Int)))), some (.int (jI ((n : Int) - 1))), some (.int (jI (aW T (n - 1)))), some (.int (jI (alc R T n s k))), some (.int (jI (s + ((k : Nat) : Int))))] [] h P := by
  intro m
  induction m with
  | zero => intro k hk; omega
  | succ m ih =>
    intro k hk hi
    have ab := alc_b (R := R) (T := T) (n := n) (k := s) k
    have aw : -64 ≤ aW T (n - 1) ∧ aW T (n - 1) ≤ 64 := by unfold aW; omega
    refine tl_iload rfl rfl ?_
    refine tl_iload_n rfl rfl ?_
    refine tl_iload_n rfl rfl ?_
    refine tl_iadd rfl ?_
    refine tl_icmp_ge (tgt := 76) rfl rfl ⟨by omega, by omega⟩ ⟨by omega, by omega⟩ (fun c1 => ?_) (fun c1 => ?_)
    · skip
      refine tl_iload rfl rfl ?_
      show jT _ _ 78 _ _ _ _
      refine tl_iret rfl ?_
      -- leaf 0 at 78
      have e : k = z := by omega
      rw [← e] at hP
      exact hP
    · show jT _ _ 53 _ _ _ _
      refine tl_aload_n rfl rfl ?_
      refine tl_iload rfl rfl ?_
      refine tl_iload rfl rfl ?_
      refine tl_iload rfl rfl ?_
      refine tl_iadd rfl ?_
      refine tl_v2i (c9 := 9) (k_isAlike l h R hR (s + (k : Int)) (s + (k : Int) + aW T (n - 1)) ⟨by omega, by omega⟩ ⟨by omega, by omega⟩) rfl rfl rfl rfl rfl (Nat.le_of_ble_eq_true rfl) (fun z1 h1 p1 => ?_)
      obtain ⟨q1, rfl⟩ := p1
      have q1 := q1.symm
      subst q1
      have b1 := zb_b (ali R (s + (k : Int)) (s + (k : Int) + aW T (n - 1)))
      show jT _ _ 64 _ _ _ _
      refine tl_if_eq (tgt := 70) rfl rfl ⟨by omega, by omega⟩ (fun c2 => ?_) (fun c2 => ?_)
      · skip
        have ea := zb0 c2
        refine tl_iinc rfl rfl rfl ?_
        refine tl_goto (tgt := 45) rfl rfl ?_
        show jT _ _ 45 _ _ _ _
        -- leaf 1 at 45
        have es : alc R T n s (k + 1) = alc R T n s k + zb (ali R (s + k) (s + k + aW T (n - 1))) := rfl
        first
          | (rw [zb_t ea] at es; refine jT.loc ?_ (ih (k + 1) (by omega) (by omega)); rw [es, show s + ((k + 1 : Nat) : Int) = s + (k : Int) + 1 by omega]; rfl)
          | (rw [zb_f ea, Int.add_zero] at es; refine jT.loc ?_ (ih (k + 1) (by omega) (by omega)); rw [es, show s + ((k + 1 : Nat) : Int) = s + (k : Int) + 1 by omega]; rfl)
      · show jT _ _ 67 _ _ _ _
        have ea := zb1' c2
        refine tl_iinc rfl rfl rfl ?_
        refine tl_iinc rfl rfl rfl ?_
        refine tl_goto (tgt := 45) rfl rfl ?_
        show jT _ _ 45 _ _ _ _
        -- leaf 2 at 45
        have es : alc R T n s (k + 1) = alc R T n s k + zb (ali R (s + k) (s + k + aW T (n - 1))) := rfl
        first
          | (rw [zb_t ea] at es; refine jT.loc ?_ (ih (k + 1) (by omega) (by omega)); rw [es, show s + ((k + 1 : Nat) : Int) = s + (k : Int) + 1 by omega]; rfl)
          | (rw [zb_f ea, Int.add_zero] at es; refine jT.loc ?_ (ih (k + 1) (by omega) (by omega)); rw [es, show s + ((k + 1 : Nat) : Int) = s + (k : Int) + 1 by omega]; rfl)
set_option maxRecDepth 20000 in
set_option maxHeartbeats 1000000 in
theorem k_alc (l : Launch) (h : jH) (R : Nat → Int) (hR : RS h 1 R) (T : jH) (n : Nat) (hn : h 319 5 = (n : Int)) (n1 : 1 ≤ n) (n64 : n ≤ 64) (e0 : h 320 (n - 1) = T 0 (n - 1)) (e1 : h 321 (n - 1) = T 1 (n - 1)) (b0 : 0 ≤ T 0 (n - 1) ∧ T 0 (n - 1) ≤ 64) (b1 : 0 ≤ T 1 (n - 1) ∧ T 1 (n - 1) ≤ 64) (s : Int) (z : Nat) (s0 : 0 ≤ s) (s64 : s ≤ 64) (z64 : z ≤ 64) : cI l 4 [.ref 319, .ref 1, .int (jI s), .int (jI (z : Int))] h (fun q h' => h' = h ∧ q = alc R T n s z) := by
  refine cI.of rfl rfl ?_
  refine tl_aload_n rfl rfl ?_
  refine tl_geti (c := 0) (k9 := 5) rfl rfl rfl ?_
  rw [hn]
  refine tl_iconst rfl ?_
  refine tl_isub rfl ?_
  refine tl_istore rfl (Nat.le_of_ble_eq_true rfl) rfl ?_
  refine tl_iload rfl rfl ?_
  show jT _ _ 10 _ _ _ _
  refine tl_if_lt (tgt := 20) rfl rfl ⟨by omega, by omega⟩ (fun c1 => ?_) (fun c1 => ?_)
  · skip
    refine tl_iconst rfl ?_
    refine tl_iret rfl ?_
    -- leaf 0 at 21
    exfalso; omega
  · show jT _ _ 13 _ _ _ _
    refine tl_iload rfl rfl ?_
    refine tl_bipush rfl rfl ?_
    refine tl_icmp_lt (tgt := 22) rfl rfl ⟨by omega, by omega⟩ ⟨by omega, by omega⟩ (fun c2 => ?_) (fun c2 => ?_)
    · skip
      refine tl_aload_n rfl rfl ?_
      show jT _ _ 23 _ _ _ _
      refine tl_getr (c := 0) (k9 := 1) (b := 321) rfl rfl rfl rfl ?_
      refine tl_iload rfl rfl ?_
      refine tl_iald (n := 64) rfl rfl rfl (by omega) (by omega) ?_
      rw [show ((n : Int) - 1).toNat = n - 1 by omega, e1]
      refine tl_aload_n rfl rfl ?_
      refine tl_getr (c := 0) (k9 := 0) (b := 320) rfl rfl rfl rfl ?_
      refine tl_iload rfl rfl ?_
      refine tl_iald (n := 64) rfl rfl rfl (by omega) (by omega) ?_
      rw [show ((n : Int) - 1).toNat = n - 1 by omega, e0]
      show jT _ _ 36 _ _ _ _
      refine tl_isub rfl ?_
      refine tl_istore rfl (Nat.le_of_ble_eq_true rfl) rfl ?_
      refine tl_iconst rfl ?_
      refine tl_istore rfl (Nat.le_of_ble_eq_true rfl) rfl ?_
      refine tl_iload_n rfl rfl ?_
      refine tl_istore rfl (Nat.le_of_ble_eq_true rfl) rfl ?_
      show jT _ _ 45 _ _ _ _
      -- leaf 1 at 45
      refine jT.loc ?_ (k_alc_lp l h R hR T n hn n1 n64 e0 e1 b0 b1 s z s0 s64 z64 _ ⟨_, rfl, rfl, rfl⟩ _ 0 (Nat.lt_succ_self _) (Nat.zero_le _))
      rw [show s + ((0 : Nat) : Int) = s by omega]
      rfl
    · show jT _ _ 20 _ _ _ _
      refine tl_iconst rfl ?_
      show jT _ _ 21 _ _ _ _
      refine tl_iret rfl ?_
      -- leaf 2 at 21
      exfalso; omega
theorem k_alc2 (l : Launch) (h : jH) (R : Nat → Int) (hR : RS h 1 R) (T : jH) (n : Nat) (hn : h 319 5 = (n : Int)) (n1 : 1 ≤ n) (n64 : n ≤ 64) (e0 : h 320 (n - 1) = T 0 (n - 1)) (e1 : h 321 (n - 1) = T 1 (n - 1)) (b0 : 0 ≤ T 0 (n - 1) ∧ T 0 (n - 1) ≤ 64) (b1 : 0 ≤ T 1 (n - 1) ∧ T 1 (n - 1) ≤ 64) (s : Int) (z : Int) (z0 : 0 ≤ z) (s0 : 0 ≤ s) (s64 : s ≤ 64) (z64 : z ≤ 64) : cI l 4 [.ref 319, .ref 1, .int (jI s), .int (jI z)] h (fun q h' => h' = h ∧ q = alc R T n s z.toNat) := by
  have := k_alc l h R hR T n hn n1 n64 e0 e1 b0 b1 s z.toNat s0 s64 (by omega)
  rwa [Int.toNat_of_nonneg z0] at this
set_option maxRecDepth 20000 in
set_option maxHeartbeats 1000000 in
theorem k_worth (l : Launch) (h : jH) (R : Nat → Int) (hR : RS h 1 R) (hg : h 319 7 = R 2) (hl : h 319 8 = R 3) (i p : Int) (hi : jr i) (hp : jr p) : cI l 5 [.ref 319, .ref 1, .int (jI i), .int (jI p)] h (fun q h' => h' = h ∧ q = ws R i p) := by
  refine cI.of rfl rfl ?_
  refine tl_aload_n rfl rfl ?_
  refine tl_iload_n rfl rfl ?_
  refine tl_iload_n rfl rfl ?_
  refine tl_v2i (c9 := 9) (k_isAlike l h R hR i p hi hp) rfl rfl rfl rfl rfl (Nat.le_of_ble_eq_true rfl) (fun z1 h1 p1 => ?_)
  obtain ⟨q1, rfl⟩ := p1
  have q1 := q1.symm
  subst q1
  have b1 := zb_b (ali R i p)
  refine tl_if_eq (tgt := 16) rfl rfl ⟨by omega, by omega⟩ (fun c1 => ?_) (fun c1 => ?_)
  · skip
    have ea := zb0 c1
    refine tl_aload_n rfl rfl ?_
    show jT _ _ 17 _ _ _ _
    refine tl_geti (c := 0) (k9 := 8) rfl rfl rfl ?_
    rw [hl]
    refine tl_ineg rfl ?_
    refine tl_iret rfl ?_
    -- leaf 0 at 21
    refine ⟨_, rfl, rfl, ?_⟩
    first | rw [ws_t ea] | rw [ws_f ea]
  · show jT _ _ 9 _ _ _ _
    have ea := zb1' c1
    refine tl_aload_n rfl rfl ?_
    refine tl_geti (c := 0) (k9 := 7) rfl rfl rfl ?_
    rw [hg]
    refine tl_goto (tgt := 21) rfl rfl ?_
    refine tl_iret rfl ?_
    -- leaf 1 at 21
    refine ⟨_, rfl, rfl, ?_⟩
    first | rw [ws_t ea] | rw [ws_f ea]
set_option maxRecDepth 20000 in
set_option maxHeartbeats 1000000 in
theorem k_choose_lp (l : Launch) (h : jH) (R : Nat → Int) (hR : RS h 1 R) (hM : ∀ q : Nat, (q : Int) < R 70 → h 315 q = mtM R (q : Int) (R 5).toNat ∧ h 316 q = mtW R (q : Int) (R 5).toNat) (hT : Rt R) (lst : Int) (l2 : 2 ≤ lst) (l9 : lst ≤ 9) (P : Option Value → jH → Prop) (hP : ∀ mem, (mem 319 5 = ((chS R lst (R 70).toNat).2.1 : Int) ∧ (∀ r, r < 3 → ∀ i, i < (chS R lst (R 70).toNat).2.1 → mem (320 + r) i = (chS R lst (R 70).toNat).1 r i) ∧ (∀ x, x < 319 ∨ 322 < x → mem x = h x) ∧ ∀ q, q ≠ 5 → mem 319 q = h 319 q) → P none mem) : ∀ (m : Nat) (k : Nat) (mem : jH) (y : Option Value), (R 70).toNat - k < m → (k ≤ (R 70).toNat ∧ (mem 319 5 = ((chS R lst k).2.1 : Int) ∧ (∀ r, r < 3 → ∀ i, i < (chS R lst k).2.1 → mem (320 + r) i = (chS R lst k).1 r i) ∧ (∀ x, x < 319 ∨ 322 < x → mem x = h x) ∧ ∀ q, q ≠ 5 → mem 319 q = h 319 q)) → jT l 3 18 [some (.ref 319), some (.ref 1), some (.ref 313), some (.int (jI (lst))), some (.int (jI (R 1))), some (.int (jI ((chS R lst k).2.2))), some (.int (jI (((k : Nat) : Int)))), y] [] mem P := by
  have ok := hR.ok
  obtain ⟨k1, k2, k3, k4, k5, k6, k7⟩ := ok
  have ok := hR.ok
  intro m
  induction m with
  | zero => intro k mem y hk; omega
  | succ m ih =>
    intro k mem y hk hi
    obtain ⟨i0, hi⟩ := hi
    have hi9 := hi
    obtain ⟨i1, i2, fr, fr2⟩ := hi
    have hRm : RS mem 1 R := hR.of (fun x x1 x2 => fr x (by omega))
    have ci := chS_CI ok l2 k (by omega)
    have n33 := ci.n33 ok
    have mb := mt_b ok (i := (k : Int)) (R 5).toNat
    have tb := hT.2.1
    have ci2 := ci
    obtain ⟨c91, c92, c93, c94, c95, c96, c97⟩ := ci2
    have cl := c96 ((chS R lst k).2.1 - 1) (by omega)
    have ab := alc_b (R := R) (T := (chS R lst k).1) (n := (chS R lst k).2.1) (k := (k : Int)) (mtM R (k : Int) (R 5).toNat).toNat
    have ea0 := i2 0 (by omega) ((chS R lst k).2.1 - 1) (by omega)
    have ea1 := i2 1 (by omega) ((chS R lst k).2.1 - 1) (by omega)
    rw [aE] at cl
    have ce : chS R lst (k + 1) = if (chS R lst k).2.2 ≤ (k : Int) ∧ lst ≤ mtM R k (R 5).toNat ∧ R 1 + alc R (chS R lst k).1 (chS R lst k).2.1 k (mtM R k (R 5).toNat).toNat < mtM R k (R 5).toNat then (addA (chS R lst k).1 (chS R lst k).2.1 k (mtW R k (R 5).toNat) (mtM R k (R 5).toNat), (chS R lst k).2.1 + 1, (k : Int) + mtM R k (R 5).toNat) else chS R lst k := rfl
    refine tl_iload rfl rfl ?_
    refine tl_aload_n rfl rfl ?_
    refine tl_getr (c := 9) (k9 := 1) (b := 4) rfl rfl rfl rfl ?_
    refine tl_geti (c := 8) (k9 := 1) rfl rfl rfl ?_
    rw [hRm.o70]
    refine tl_icmp_ge (tgt := 104) rfl rfl ⟨by omega, by omega⟩ ⟨by omega, by omega⟩ (fun c1 => ?_) (fun c1 => ?_)
    · skip
      refine tl_ret rfl ?_
      -- leaf 0 at 104
      have e : k = (R 70).toNat := by omega
      rw [e] at hi9
      exact hP mem hi9
    · show jT _ _ 30 _ _ _ _
      show jT _ _ 30 _ _ _ _
      refine tl_iload rfl rfl ?_
      refine tl_bipush rfl rfl ?_
      refine tl_icmp_ge (tgt := 104) rfl rfl ⟨by omega, by omega⟩ ⟨by omega, by omega⟩ (fun c2 => ?_) (fun c2 => ?_)
      · skip
        refine tl_ret rfl ?_
        -- leaf 1 at 104
        have e : k = (R 70).toNat := by omega
        rw [e] at hi9
        exact hP mem hi9
      · show jT _ _ 37 _ _ _ _
        refine tl_aload_n rfl rfl ?_
        refine tl_getr (c := 10) (k9 := 2) (b := 315) rfl rfl rfl rfl ?_
        refine tl_iload rfl rfl ?_
        show jT _ _ 43 _ _ _ _
        refine tl_iald (n := 64) rfl rfl rfl (by omega) (by omega) ?_
        rw [Int.toNat_natCast, fr 315 (by omega), (hM k (by omega)).1]
        refine tl_istore rfl (Nat.le_of_ble_eq_true rfl) rfl ?_
        refine tl_iload rfl rfl ?_
        refine tl_iload rfl rfl ?_
        refine tl_icmp_lt (tgt := 98) rfl rfl ⟨by omega, by omega⟩ ⟨by omega, by omega⟩ (fun c3 => ?_) (fun c3 => ?_)
        · skip
          refine tl_iinc rfl rfl rfl ?_
          refine tl_goto (tgt := 18) rfl rfl ?_
          show jT _ _ 18 _ _ _ _
          -- leaf 2 at 18
          first
            | (exfalso; omega)
            | (rw [if_neg (by omega)] at ce
               have := ih (k + 1) mem (some (.int (jI (mtM R (k : Int) (R 5).toNat)))) (by omega) ⟨by omega, by rw [ce]; exact hi9⟩
               rw [ce] at this
               exact this)
            | (rw [if_pos (by omega)] at ce
               generalize gT : (chS R lst k).1 = T at *
               generalize gn : (chS R lst k).2.1 = n at *
               have := ih (k + 1) (hs (hs (hs (hs mem 320 n (k : Int)) 321 n (mtW R (k : Int) (R 5).toNat)) 322 n (mtM R (k : Int) (R 5).toNat)) 319 5 ((n + 1 : Nat) : Int)) (some (.int (jI (mtM R (k : Int) (R 5).toNat)))) (by omega) ⟨by omega, ?_⟩
               · rw [ce] at this
                 exact this
               · rw [ce]
                 refine ⟨hs_s, fun r hr i hi => ?_, fun x hx => ?_, fun q hq => ?_⟩
                 · have hi2 : i < n + 1 := hi
                   have hv : ∀ i, i ≠ n → mem 320 i = mem 320 i := fun _ _ => rfl
                   show _ = addA T n k (mtW R (k : Int) (R 5).toNat) (mtM R (k : Int) (R 5).toNat) r i
                   have o := fun (c : i ≠ n) => i2 r hr i (by omega)
                   rcases (show r = 0 ∨ r = 1 ∨ r = 2 by omega) with e | e | e
                   · subst e
                     rw [addA_0, hs_o (by decide), hs_o (by decide), hs_o (by decide)]
                     by_cases c : i = n
                     · subst c; rw [hs_s, if_pos rfl]
                     · rw [hs_k c, if_neg c]; exact o c
                   · subst e
                     rw [addA_1, hs_o (by decide), hs_o (by decide)]
                     by_cases c : i = n
                     · subst c; rw [hs_s, if_pos rfl]
                     · rw [hs_k c, if_neg c, hs_o (by decide)]; exact o c
                   · subst e
                     rw [addA_2, hs_o (by decide)]
                     by_cases c : i = n
                     · subst c; rw [hs_s, if_pos rfl]
                     · rw [hs_k c, if_neg c, hs_o (by decide), hs_o (by decide)]; exact o c
                 · rw [hs_O (by omega), hs_O (by omega), hs_O (by omega), hs_O (by omega)]; exact fr x hx
                 · rw [hs_k hq, hs_o (by decide), hs_o (by decide), hs_o (by decide)]; exact fr2 q hq)
        · show jT _ _ 53 _ _ _ _
          show jT _ _ 53 _ _ _ _
          refine tl_iload rfl rfl ?_
          refine tl_iload_n rfl rfl ?_
          refine tl_icmp_lt (tgt := 98) rfl rfl ⟨by omega, by omega⟩ ⟨by omega, by omega⟩ (fun c4 => ?_) (fun c4 => ?_)
          · skip
            refine tl_iinc rfl rfl rfl ?_
            refine tl_goto (tgt := 18) rfl rfl ?_
            show jT _ _ 18 _ _ _ _
            -- leaf 3 at 18
            first
              | (exfalso; omega)
              | (rw [if_neg (by omega)] at ce
                 have := ih (k + 1) mem (some (.int (jI (mtM R (k : Int) (R 5).toNat)))) (by omega) ⟨by omega, by rw [ce]; exact hi9⟩
                 rw [ce] at this
                 exact this)
              | (rw [if_pos (by omega)] at ce
                 generalize gT : (chS R lst k).1 = T at *
                 generalize gn : (chS R lst k).2.1 = n at *
                 have := ih (k + 1) (hs (hs (hs (hs mem 320 n (k : Int)) 321 n (mtW R (k : Int) (R 5).toNat)) 322 n (mtM R (k : Int) (R 5).toNat)) 319 5 ((n + 1 : Nat) : Int)) (some (.int (jI (mtM R (k : Int) (R 5).toNat)))) (by omega) ⟨by omega, ?_⟩
                 · rw [ce] at this
                   exact this
                 · rw [ce]
                   refine ⟨hs_s, fun r hr i hi => ?_, fun x hx => ?_, fun q hq => ?_⟩
                   · have hi2 : i < n + 1 := hi
                     have hv : ∀ i, i ≠ n → mem 320 i = mem 320 i := fun _ _ => rfl
                     show _ = addA T n k (mtW R (k : Int) (R 5).toNat) (mtM R (k : Int) (R 5).toNat) r i
                     have o := fun (c : i ≠ n) => i2 r hr i (by omega)
                     rcases (show r = 0 ∨ r = 1 ∨ r = 2 by omega) with e | e | e
                     · subst e
                       rw [addA_0, hs_o (by decide), hs_o (by decide), hs_o (by decide)]
                       by_cases c : i = n
                       · subst c; rw [hs_s, if_pos rfl]
                       · rw [hs_k c, if_neg c]; exact o c
                     · subst e
                       rw [addA_1, hs_o (by decide), hs_o (by decide)]
                       by_cases c : i = n
                       · subst c; rw [hs_s, if_pos rfl]
                       · rw [hs_k c, if_neg c, hs_o (by decide)]; exact o c
                     · subst e
                       rw [addA_2, hs_o (by decide)]
                       by_cases c : i = n
                       · subst c; rw [hs_s, if_pos rfl]
                       · rw [hs_k c, if_neg c, hs_o (by decide), hs_o (by decide)]; exact o c
                   · rw [hs_O (by omega), hs_O (by omega), hs_O (by omega), hs_O (by omega)]; exact fr x hx
                   · rw [hs_k hq, hs_o (by decide), hs_o (by decide), hs_o (by decide)]; exact fr2 q hq)
          · show jT _ _ 59 _ _ _ _
            refine tl_iload rfl rfl ?_
            refine tl_iload rfl rfl ?_
            show jT _ _ 63 _ _ _ _
            refine tl_aload_n rfl rfl ?_
            refine tl_aload_n rfl rfl ?_
            refine tl_iload rfl rfl ?_
            refine tl_iload rfl rfl ?_
            refine tl_v3i (c9 := 0) (k_alc2 l mem R hRm (chS R lst k).1 (chS R lst k).2.1 i1 (by omega) (by omega) ea0 ea1 (by omega) (by omega) (k : Int) (mtM R (k : Int) (R 5).toNat) (by omega) (by omega) (by omega) (by omega)) rfl rfl rfl rfl rfl (Nat.le_of_ble_eq_true rfl) (fun z2 h2 p2 => ?_)
            obtain ⟨q2, rfl⟩ := p2
            have q2 := q2.symm
            subst q2
            refine tl_iadd rfl ?_
            refine tl_icmp_le (tgt := 98) rfl rfl ⟨by omega, by omega⟩ ⟨by omega, by omega⟩ (fun c5 => ?_) (fun c5 => ?_)
            · skip
              show jT _ _ 98 _ _ _ _
              refine tl_iinc rfl rfl rfl ?_
              refine tl_goto (tgt := 18) rfl rfl ?_
              show jT _ _ 18 _ _ _ _
              -- leaf 4 at 18
              first
                | (exfalso; omega)
                | (rw [if_neg (by omega)] at ce
                   have := ih (k + 1) mem (some (.int (jI (mtM R (k : Int) (R 5).toNat)))) (by omega) ⟨by omega, by rw [ce]; exact hi9⟩
                   rw [ce] at this
                   exact this)
                | (rw [if_pos (by omega)] at ce
                   generalize gT : (chS R lst k).1 = T at *
                   generalize gn : (chS R lst k).2.1 = n at *
                   have := ih (k + 1) (hs (hs (hs (hs mem 320 n (k : Int)) 321 n (mtW R (k : Int) (R 5).toNat)) 322 n (mtM R (k : Int) (R 5).toNat)) 319 5 ((n + 1 : Nat) : Int)) (some (.int (jI (mtM R (k : Int) (R 5).toNat)))) (by omega) ⟨by omega, ?_⟩
                   · rw [ce] at this
                     exact this
                   · rw [ce]
                     refine ⟨hs_s, fun r hr i hi => ?_, fun x hx => ?_, fun q hq => ?_⟩
                     · have hi2 : i < n + 1 := hi
                       have hv : ∀ i, i ≠ n → mem 320 i = mem 320 i := fun _ _ => rfl
                       show _ = addA T n k (mtW R (k : Int) (R 5).toNat) (mtM R (k : Int) (R 5).toNat) r i
                       have o := fun (c : i ≠ n) => i2 r hr i (by omega)
                       rcases (show r = 0 ∨ r = 1 ∨ r = 2 by omega) with e | e | e
                       · subst e
                         rw [addA_0, hs_o (by decide), hs_o (by decide), hs_o (by decide)]
                         by_cases c : i = n
                         · subst c; rw [hs_s, if_pos rfl]
                         · rw [hs_k c, if_neg c]; exact o c
                       · subst e
                         rw [addA_1, hs_o (by decide), hs_o (by decide)]
                         by_cases c : i = n
                         · subst c; rw [hs_s, if_pos rfl]
                         · rw [hs_k c, if_neg c, hs_o (by decide)]; exact o c
                       · subst e
                         rw [addA_2, hs_o (by decide)]
                         by_cases c : i = n
                         · subst c; rw [hs_s, if_pos rfl]
                         · rw [hs_k c, if_neg c, hs_o (by decide), hs_o (by decide)]; exact o c
                     · rw [hs_O (by omega), hs_O (by omega), hs_O (by omega), hs_O (by omega)]; exact fr x hx
                     · rw [hs_k hq, hs_o (by decide), hs_o (by decide), hs_o (by decide)]; exact fr2 q hq)
            · show jT _ _ 76 _ _ _ _
              refine tl_aload_n rfl rfl ?_
              refine tl_iload rfl rfl ?_
              refine tl_aload_n rfl rfl ?_
              refine tl_getr (c := 10) (k9 := 3) (b := 316) rfl rfl rfl rfl ?_
              refine tl_iload rfl rfl ?_
              show jT _ _ 85 _ _ _ _
              refine tl_iald (n := 64) rfl rfl rfl (by omega) (by omega) ?_
              rw [Int.toNat_natCast, fr 316 (by omega), (hM k (by omega)).2]
              refine tl_iload rfl rfl ?_
              refine tl_v3v (c9 := 0) (k_addAnchor l mem (chS R lst k).2.1 i1 (by omega) (k : Int) (mtW R (k : Int) (R 5).toNat) (mtM R (k : Int) (R 5).toNat)) rfl rfl rfl rfl rfl (Nat.le_of_ble_eq_true rfl) (fun h3 p3 => ?_)
              subst p3
              refine tl_iload rfl rfl ?_
              refine tl_iload rfl rfl ?_
              refine tl_iadd rfl ?_
              refine tl_istore rfl (Nat.le_of_ble_eq_true rfl) rfl ?_
              show jT _ _ 98 _ _ _ _
              refine tl_iinc rfl rfl rfl ?_
              refine tl_goto (tgt := 18) rfl rfl ?_
              show jT _ _ 18 _ _ _ _
              -- leaf 5 at 18
              first
                | (exfalso; omega)
                | (rw [if_neg (by omega)] at ce
                   have := ih (k + 1) mem (some (.int (jI (mtM R (k : Int) (R 5).toNat)))) (by omega) ⟨by omega, by rw [ce]; exact hi9⟩
                   rw [ce] at this
                   exact this)
                | (rw [if_pos (by omega)] at ce
                   generalize gT : (chS R lst k).1 = T at *
                   generalize gn : (chS R lst k).2.1 = n at *
                   have := ih (k + 1) (hs (hs (hs (hs mem 320 n (k : Int)) 321 n (mtW R (k : Int) (R 5).toNat)) 322 n (mtM R (k : Int) (R 5).toNat)) 319 5 ((n + 1 : Nat) : Int)) (some (.int (jI (mtM R (k : Int) (R 5).toNat)))) (by omega) ⟨by omega, ?_⟩
                   · rw [ce] at this
                     exact this
                   · rw [ce]
                     refine ⟨hs_s, fun r hr i hi => ?_, fun x hx => ?_, fun q hq => ?_⟩
                     · have hi2 : i < n + 1 := hi
                       have hv : ∀ i, i ≠ n → mem 320 i = mem 320 i := fun _ _ => rfl
                       show _ = addA T n k (mtW R (k : Int) (R 5).toNat) (mtM R (k : Int) (R 5).toNat) r i
                       have o := fun (c : i ≠ n) => i2 r hr i (by omega)
                       rcases (show r = 0 ∨ r = 1 ∨ r = 2 by omega) with e | e | e
                       · subst e
                         rw [addA_0, hs_o (by decide), hs_o (by decide), hs_o (by decide)]
                         by_cases c : i = n
                         · subst c; rw [hs_s, if_pos rfl]
                         · rw [hs_k c, if_neg c]; exact o c
                       · subst e
                         rw [addA_1, hs_o (by decide), hs_o (by decide)]
                         by_cases c : i = n
                         · subst c; rw [hs_s, if_pos rfl]
                         · rw [hs_k c, if_neg c, hs_o (by decide)]; exact o c
                       · subst e
                         rw [addA_2, hs_o (by decide)]
                         by_cases c : i = n
                         · subst c; rw [hs_s, if_pos rfl]
                         · rw [hs_k c, if_neg c, hs_o (by decide), hs_o (by decide)]; exact o c
                     · rw [hs_O (by omega), hs_O (by omega), hs_O (by omega), hs_O (by omega)]; exact fr x hx
                     · rw [hs_k hq, hs_o (by decide), hs_o (by decide), hs_o (by decide)]; exact fr2 q hq)
set_option maxRecDepth 20000 in
set_option maxHeartbeats 1000000 in
theorem k_choose (l : Launch) (h : jH) (R : Nat → Int) (hR : RS h 1 R) (hM : ∀ q : Nat, (q : Int) < R 70 → h 315 q = mtM R (q : Int) (R 5).toNat ∧ h 316 q = mtW R (q : Int) (R 5).toNat) (hT : Rt R) (lst : Int) (l2 : 2 ≤ lst) (l9 : lst ≤ 9) : cV l 3 [.ref 319, .ref 1, .ref 313, .int (jI lst), .int (jI (R 1))] h (fun h' => (h' 319 5 = ((chS R lst (R 70).toNat).2.1 : Int) ∧ (∀ r, r < 3 → ∀ i, i < (chS R lst (R 70).toNat).2.1 → h' (320 + r) i = (chS R lst (R 70).toNat).1 r i) ∧ (∀ x, x < 319 ∨ 322 < x → h' x = h x) ∧ ∀ q, q ≠ 5 → h' 319 q = h 319 q)) := by
  refine cV.of rfl rfl ?_
  refine tl_aload_n rfl rfl ?_
  refine tl_iconst rfl ?_
  refine tl_puti (c := 0) (k9 := 5) rfl rfl rfl rfl ?_
  refine tl_aload_n rfl rfl ?_
  refine tl_iconst rfl ?_
  refine tl_iconst rfl ?_
  show jT _ _ 8 _ _ _ _
  refine tl_iconst rfl ?_
  refine tl_v3v (c9 := 0) (k_addAnchor l _ 0 hs_s (by omega) 0 0 0) rfl rfl rfl rfl rfl (Nat.le_of_ble_eq_true rfl) (fun h3 p3 => ?_)
  subst p3
  refine tl_iconst rfl ?_
  refine tl_istore rfl (Nat.le_of_ble_eq_true rfl) rfl ?_
  refine tl_iconst rfl ?_
  refine tl_istore rfl (Nat.le_of_ble_eq_true rfl) rfl ?_
  show jT _ _ 18 _ _ _ _
  -- leaf 0 at 18
  refine k_choose_lp l h R hR hM hT lst l2 l9 _ (fun mem hi => ⟨rfl, hi⟩) _ 0 _ _ (Nat.lt_succ_self _) ⟨Nat.zero_le _, hs_s, fun r hr i hi => ?_, fun x hx => ?_, fun q hq => ?_⟩
  · have hi2 : i < 1 := hi
    rw [show i = 0 by omega]
    show _ = (0 : Int)
    rcases (show r = 0 ∨ r = 1 ∨ r = 2 by omega) with e | e | e
    · subst e; rw [hs_o (by decide), hs_o (by decide), hs_o (by decide), hs_s]
    · subst e; rw [hs_o (by decide), hs_o (by decide), hs_s]
    · subst e; rw [hs_o (by decide), hs_s]
  · rw [hs_O (by omega), hs_O (by omega), hs_O (by omega), hs_O (by omega), hs_O (by omega)]
  · rw [hs_k hq, hs_o (by decide), hs_o (by decide), hs_o (by decide), hs_k hq]
