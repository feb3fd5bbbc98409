/-! packing, of the reference -/
def ML (h : jH) (L : List Int) : Prop := h 388 27 = (L.length : Int) ∧ ∀ i, i < L.length → h 405 i = L.getD i 0
def FM (h h' : jH) : Prop := (∀ y, y ≠ 388 → y ≠ 405 → h' y = h y) ∧ ∀ q, q ≠ 27 → h' 388 q = h 388 q
theorem FM.rfl' {h : jH} : FM h h := ⟨fun _ _ _ => rfl, fun _ _ => rfl⟩
theorem FM.trans {a b c : jH} (h1 : FM a b) (h2 : FM b c) : FM a c := ⟨fun y y1 y2 => (h2.1 y y1 y2).trans (h1.1 y y1 y2), fun q hq => (h2.2 q hq).trans (h1.2 q hq)⟩
def BL (h : jH) (V : List Int) : Prop := h 388 29 = (V.length : Int) ∧ ∀ i, i < V.length → h 406 i = V.getD i 0
theorem BL.fm {h h' : jH} {V : List Int} (k : BL h V) (f : FM h h') : BL h' V := ⟨by rw [f.2 29 (by decide)]; exact k.1, fun i hi => by rw [f.1 406 (by decide) (by decide)]; exact k.2 i hi⟩
def OGR (h g : jH) (n : Nat) : Prop := h 388 25 = (n : Int) ∧ ∀ i, i < n → h 403 i = g 0 i ∧ h 404 i = g 1 i
theorem OGR.fm {h h' g : jH} {n : Nat} (k : OGR h g n) (f : FM h h') : OGR h' g n := ⟨by rw [f.2 25 (by decide)]; exact k.1, fun i hi => by rw [f.1 403 (by decide) (by decide), f.1 404 (by decide) (by decide)]; exact k.2 i hi⟩
set_option maxRecDepth 20000 in
set_option maxHeartbeats 1000000 in
theorem r_add (l : Launch) (h : jH) (L : List Int) (k : ML h L) (hn : L.length < 400) (x : Int) : cV l 257 [.ref 388, .int (jI x)] h (fun h' => ML h' (L ++ [x]) ∧ FM h h') := by
  refine cV.of rfl rfl ?_
  refine tl_aload_n rfl rfl ?_
  refine tl_getr (c := 12) (k9 := 26) (b := 405) rfl rfl rfl rfl ?_
  refine tl_aload_n rfl rfl ?_
  refine tl_geti (c := 12) (k9 := 27) rfl rfl rfl ?_
  rw [k.1]
  refine tl_iload_n rfl rfl ?_
  refine tl_iast (n := 400) rfl rfl rfl (by omega) (by omega) ?_
  show jT _ _ 10 _ _ _ _
  refine tl_aload_n rfl rfl ?_
  refine tl_dup rfl rfl ?_
  refine tl_geti (c := 12) (k9 := 27) rfl rfl rfl ?_
  rw [hs_o (by decide), k.1]
  refine tl_iconst rfl ?_
  refine tl_iadd rfl ?_
  refine tl_puti (c := 12) (k9 := 27) rfl rfl rfl rfl ?_
  refine tl_ret rfl ?_
  -- leaf 0 at 20
  refine ⟨rfl, ⟨?_, fun i hi => ?_⟩, fun y y1 y2 => ?_, fun q hq => ?_⟩
  · rw [hs_s, List.length_append]; show (L.length : Int) + 1 = ((L.length + 1 : Nat) : Int); omega
  · rw [List.length_append] at hi
    have hi2 : i < L.length + 1 := hi
    rw [hs_o (by decide), Int.toNat_natCast]
    by_cases c : i = L.length
    · subst c; rw [hs_s, gd_s]
    · rw [hs_k c, gd_l (by omega)]; exact k.2 i (by omega)
  · rw [hs_O y1, hs_O y2]
  · rw [hs_k hq, hs_o (by decide)]
set_option maxRecDepth 20000 in
set_option maxHeartbeats 1000000 in
theorem r_an (l : Launch) (h : jH) (L : List Int) (k : ML h L) (hn : L.length < 400) (v x : Int) (v0 : 0 ≤ v) (v1 : v < 128) (P : Option Value → jH → Prop) (hP : ∀ h', ML h' (L ++ [v]) ∧ FM h h' → P none h') : jT l 258 2 [some (.ref 388), some (.int (jI (x))), some (.int (jI (v)))] [] h P := by
  refine tl_iload_n rfl rfl ?_
  refine tl_bipush rfl rfl ?_
  refine tl_icmp_le (tgt := 30) rfl rfl ⟨by omega, by omega⟩ ⟨by omega, by omega⟩ (fun c1 => ?_) (fun c1 => ?_)
  · skip
    refine tl_aload_n rfl rfl ?_
    refine tl_iload_n rfl rfl ?_
    refine tl_v1v (c9 := 12) (r_add l h L k hn v) rfl rfl rfl rfl rfl (Nat.le_of_ble_eq_true rfl) (fun h1 p1 => ?_)
    show jT _ _ 35 _ _ _ _
    refine tl_ret rfl ?_
    -- leaf 0 at 35
    exact hP h1 p1
  · show jT _ _ 8 _ _ _ _
    exfalso; omega
set_option maxRecDepth 20000 in
set_option maxHeartbeats 1000000 in
theorem r_addNum (l : Launch) (h : jH) (L : List Int) (k : ML h L) (hn : L.length + 2 ≤ 400) (v : Int) (v0 : 0 ≤ v) (v1 : v < 16384) : cV l 258 [.ref 388, .int (jI v)] h (fun h' => ML h' (L ++ nm v) ∧ FM h h') := by
  refine cV.of rfl rfl ?_
  refine tl_iload_n rfl rfl ?_
  refine tl_istore_n rfl (Nat.le_of_ble_eq_true rfl) rfl ?_
  show jT _ _ 2 _ _ _ _
  -- leaf 0 at 2
  by_cases c : v < 128
  · rw [nm_1 c]
    exact r_an l h L k (by omega) v v v0 c _ (fun h' q => ⟨rfl, q⟩)
  · skip
    refine tl_iload_n rfl rfl ?_
    refine tl_bipush rfl rfl ?_
    refine tl_icmp_le (tgt := 30) rfl rfl ⟨by omega, by omega⟩ ⟨by omega, by omega⟩ (fun c1 => ?_) (fun c1 => ?_)
    · skip
      exfalso; omega
    · show jT _ _ 8 _ _ _ _
      refine tl_aload_n rfl rfl ?_
      refine tl_sipush rfl rfl ?_
      refine tl_iload_n rfl rfl ?_
      show jT _ _ 13 _ _ _ _
      refine tl_sipush rfl rfl ?_
      refine tl_irem rfl (by omega) (by omega) (by omega) (by omega) ?_
      refine tl_iadd rfl ?_
      refine tl_v1v (c9 := 12) (r_add l h L k (by omega) (128 + v % 128)) rfl rfl rfl rfl rfl (Nat.le_of_ble_eq_true rfl) (fun h1 p1 => ?_)
      obtain ⟨k1, f1⟩ := p1
      refine tl_iload_n rfl rfl ?_
      refine tl_sipush rfl rfl ?_
      refine tl_idiv rfl (by omega) (by omega) (by omega) (by omega) ?_
      show jT _ _ 26 _ _ _ _
      refine tl_istore_n rfl (Nat.le_of_ble_eq_true rfl) rfl ?_
      refine tl_goto (tgt := 2) rfl rfl ?_
      show jT _ _ 2 _ _ _ _
      -- leaf 0 at 2
      refine r_an l h1 _ k1 (by rw [List.length_append]; show L.length + 1 < 400; omega) (v / 128) v (by omega) (by omega) _ (fun h' q => ⟨rfl, ?_, f1.trans q.2⟩)
      rw [nm_2 c, ← List.append_assoc]; exact q.1
set_option maxRecDepth 20000 in
set_option maxHeartbeats 1000000 in
theorem r_goesOn (l : Launch) (h g : jH) (n : Nat) (hg : OGR h g n) (hv : OGv g n) (i : Nat) (hi : i < n) : cI l 261 [.ref 388, .int (jI (i : Int))] h (fun z h' => h' = h ∧ z = zb (gon g i)) := by
  have n64 := hv.1
  have bi := (hv.2 i hi).1
  refine cI.ofZ rfl rfl ?_
  refine tl_iload_n rfl rfl ?_
  refine tl_if_le (tgt := 49) rfl rfl ⟨by omega, by omega⟩ (fun c1 => ?_) (fun c1 => ?_)
  · skip
    refine tl_iconst rfl ?_
    refine tl_iret rfl ?_
    -- leaf 0 at 50
    refine ⟨_, rfl, by omega, rfl, ?_⟩
    have bj0 : i ≠ 0 → -1 ≤ g 0 (i - 1) := fun h0 => (hv.2 (i - 1) (by omega)).1.1
    first | exact (zb_f (gon_f (by omega))).symm | exact (zb_f (gon_f (fun w => by have := bj0 w.1; omega))).symm | exact (zb_t (gon_t' (by omega))).symm
  · show jT _ _ 4 _ _ _ _
    refine tl_aload_n rfl rfl ?_
    refine tl_getr (c := 12) (k9 := 23) (b := 403) rfl rfl rfl rfl ?_
    show jT _ _ 8 _ _ _ _
    refine tl_iload_n rfl rfl ?_
    refine tl_iald (n := 64) rfl rfl rfl (by omega) (by omega) ?_
    rw [Int.toNat_natCast, (hg.2 i hi).1]
    refine tl_iconst rfl ?_
    refine tl_icmp_eq (tgt := 49) rfl rfl ⟨by omega, by omega⟩ ⟨by omega, by omega⟩ (fun c2 => ?_) (fun c2 => ?_)
    · skip
      refine tl_iconst rfl ?_
      refine tl_iret rfl ?_
      -- leaf 1 at 50
      refine ⟨_, rfl, by omega, rfl, ?_⟩
      have bj0 : i ≠ 0 → -1 ≤ g 0 (i - 1) := fun h0 => (hv.2 (i - 1) (by omega)).1.1
      first | exact (zb_f (gon_f (by omega))).symm | exact (zb_f (gon_f (fun w => by have := bj0 w.1; omega))).symm | exact (zb_t (gon_t' (by omega))).symm
    · show jT _ _ 14 _ _ _ _
      refine tl_aload_n rfl rfl ?_
      show jT _ _ 15 _ _ _ _
      refine tl_getr (c := 12) (k9 := 23) (b := 403) rfl rfl rfl rfl ?_
      refine tl_iload_n rfl rfl ?_
      refine tl_iconst rfl ?_
      refine tl_isub rfl ?_
      refine tl_iald (n := 64) rfl rfl rfl (by omega) (by omega) ?_
      rw [show ((i : Int) - 1).toNat = i - 1 by omega, (hg.2 (i - 1) (by omega)).1]
      have bj := (hv.2 (i - 1) (by omega)).1
      refine tl_iconst rfl ?_
      refine tl_icmp_eq (tgt := 49) rfl rfl ⟨by omega, by omega⟩ ⟨by omega, by omega⟩ (fun c3 => ?_) (fun c3 => ?_)
      · skip
        show jT _ _ 49 _ _ _ _
        refine tl_iconst rfl ?_
        refine tl_iret rfl ?_
        -- leaf 2 at 50
        refine ⟨_, rfl, by omega, rfl, ?_⟩
        have bj0 : i ≠ 0 → -1 ≤ g 0 (i - 1) := fun h0 => (hv.2 (i - 1) (by omega)).1.1
        first | exact (zb_f (gon_f (by omega))).symm | exact (zb_f (gon_f (fun w => by have := bj0 w.1; omega))).symm | exact (zb_t (gon_t' (by omega))).symm
      · show jT _ _ 26 _ _ _ _
        refine tl_aload_n rfl rfl ?_
        refine tl_getr (c := 12) (k9 := 23) (b := 403) rfl rfl rfl rfl ?_
        refine tl_iload_n rfl rfl ?_
        refine tl_iald (n := 64) rfl rfl rfl (by omega) (by omega) ?_
        rw [Int.toNat_natCast, (hg.2 i hi).1]
        refine tl_aload_n rfl rfl ?_
        show jT _ _ 33 _ _ _ _
        refine tl_getr (c := 12) (k9 := 23) (b := 403) rfl rfl rfl rfl ?_
        refine tl_iload_n rfl rfl ?_
        refine tl_iconst rfl ?_
        refine tl_isub rfl ?_
        refine tl_iald (n := 64) rfl rfl rfl (by omega) (by omega) ?_
        rw [show ((i : Int) - 1).toNat = i - 1 by omega, (hg.2 (i - 1) (by omega)).1]
        have bj := (hv.2 (i - 1) (by omega)).1
        refine tl_iconst rfl ?_
        refine tl_iadd rfl ?_
        show jT _ _ 42 _ _ _ _
        refine tl_icmp_ne (tgt := 49) rfl rfl ⟨by omega, by omega⟩ ⟨by omega, by omega⟩ (fun c4 => ?_) (fun c4 => ?_)
        · skip
          refine tl_iconst rfl ?_
          refine tl_iret rfl ?_
          -- leaf 3 at 50
          refine ⟨_, rfl, by omega, rfl, ?_⟩
          have bj0 : i ≠ 0 → -1 ≤ g 0 (i - 1) := fun h0 => (hv.2 (i - 1) (by omega)).1.1
          first | exact (zb_f (gon_f (by omega))).symm | exact (zb_f (gon_f (fun w => by have := bj0 w.1; omega))).symm | exact (zb_t (gon_t' (by omega))).symm
        · show jT _ _ 45 _ _ _ _
          refine tl_iconst rfl ?_
          refine tl_goto (tgt := 50) rfl rfl ?_
          refine tl_iret rfl ?_
          -- leaf 4 at 50
          refine ⟨_, rfl, by omega, rfl, ?_⟩
          have bj0 : i ≠ 0 → -1 ≤ g 0 (i - 1) := fun h0 => (hv.2 (i - 1) (by omega)).1.1
          first | exact (zb_f (gon_f (by omega))).symm | exact (zb_f (gon_f (fun w => by have := bj0 w.1; omega))).symm | exact (zb_t (gon_t' (by omega))).symm
set_option maxRecDepth 20000 in
set_option maxHeartbeats 1000000 in
theorem r_begins (l : Launch) (h g : jH) (n : Nat) (hg : OGR h g n) (hv : OGv g n) (i : Nat) (hi : i < n) : cI l 262 [.ref 388, .int (jI (i : Int))] h (fun z h' => h' = h ∧ z = zb (bgn g i)) := by
  have n64 := hv.1
  have bi := (hv.2 i hi).1
  refine cI.ofZ rfl rfl ?_
  refine tl_iload_n rfl rfl ?_
  refine tl_if_eq (tgt := 22) rfl rfl ⟨by omega, by omega⟩ (fun c1 => ?_) (fun c1 => ?_)
  · skip
    refine tl_iconst rfl ?_
    refine tl_goto (tgt := 27) rfl rfl ?_
    refine tl_iret rfl ?_
    -- leaf 0 at 27
    refine ⟨_, rfl, by omega, rfl, ?_⟩
    first | exact (zb_t (bgn_t' (Or.inl (by omega)))).symm | exact (zb_t (bgn_t' (Or.inr ⟨by omega, e1⟩))).symm | exact (zb_f (bgn_f (by omega))).symm | exact (zb_f (bgn_f (fun w => by rcases w with w | w; omega; (rw [e1] at w; exact absurd w.2 (by decide))))).symm
  · show jT _ _ 4 _ _ _ _
    refine tl_aload_n rfl rfl ?_
    show jT _ _ 5 _ _ _ _
    refine tl_getr (c := 12) (k9 := 23) (b := 403) rfl rfl rfl rfl ?_
    refine tl_iload_n rfl rfl ?_
    refine tl_iald (n := 64) rfl rfl rfl (by omega) (by omega) ?_
    rw [Int.toNat_natCast, (hg.2 i hi).1]
    refine tl_iconst rfl ?_
    refine tl_icmp_eq (tgt := 26) rfl rfl ⟨by omega, by omega⟩ ⟨by omega, by omega⟩ (fun c2 => ?_) (fun c2 => ?_)
    · skip
      refine tl_iconst rfl ?_
      refine tl_iret rfl ?_
      -- leaf 1 at 27
      refine ⟨_, rfl, by omega, rfl, ?_⟩
      first | exact (zb_t (bgn_t' (Or.inl (by omega)))).symm | exact (zb_t (bgn_t' (Or.inr ⟨by omega, e1⟩))).symm | exact (zb_f (bgn_f (by omega))).symm | exact (zb_f (bgn_f (fun w => by rcases w with w | w; omega; (rw [e1] at w; exact absurd w.2 (by decide))))).symm
    · show jT _ _ 14 _ _ _ _
      show jT _ _ 14 _ _ _ _
      refine tl_aload_n rfl rfl ?_
      refine tl_iload_n rfl rfl ?_
      refine tl_v1i (c9 := 12) (r_goesOn l h g n hg hv i (by omega)) rfl rfl rfl rfl rfl (Nat.le_of_ble_eq_true rfl) (fun z2 h2 p2 => ?_)
      obtain ⟨q2, rfl⟩ := p2
      have q2 := q2.symm
      subst q2
      have b2 := zb_b (gon g i)
      refine tl_if_ne (tgt := 26) rfl rfl ⟨by omega, by omega⟩ (fun c3 => ?_) (fun c3 => ?_)
      · skip
        have e1 := zb1 c3
        refine tl_iconst rfl ?_
        refine tl_iret rfl ?_
        -- leaf 2 at 27
        refine ⟨_, rfl, by omega, rfl, ?_⟩
        first | exact (zb_t (bgn_t' (Or.inl (by omega)))).symm | exact (zb_t (bgn_t' (Or.inr ⟨by omega, e1⟩))).symm | exact (zb_f (bgn_f (by omega))).symm | exact (zb_f (bgn_f (fun w => by rcases w with w | w; omega; (rw [e1] at w; exact absurd w.2 (by decide))))).symm
      · show jT _ _ 22 _ _ _ _
        have e1 := zb0' c3
        refine tl_iconst rfl ?_
        show jT _ _ 23 _ _ _ _
        refine tl_goto (tgt := 27) rfl rfl ?_
        refine tl_iret rfl ?_
        -- leaf 3 at 27
        refine ⟨_, rfl, by omega, rfl, ?_⟩
        first | exact (zb_t (bgn_t' (Or.inl (by omega)))).symm | exact (zb_t (bgn_t' (Or.inr ⟨by omega, e1⟩))).symm | exact (zb_f (bgn_f (by omega))).symm | exact (zb_f (bgn_f (fun w => by rcases w with w | w; omega; (rw [e1] at w; exact absurd w.2 (by decide))))).symm
set_option maxRecDepth 20000 in
set_option maxHeartbeats 1000000 in
theorem r_cnt_lp (l : Launch) (h g : jH) (n : Nat) (hg : OGR h g n) (hv : OGv g n) (P : Option Value → jH → Prop) (hP : P (some (.int (jI (ptn g n)))) h) : ∀ (m : Nat) (k : Nat), n - k < m → (k ≤ n) → jT l 263 4 [some (.ref 388), some (.int (jI (ptn g k))), some (.int (jI ((k : Int))))] [] h P := by
  have n64 := hv.1
  intro m
  induction m with
  | zero => intro k hk; omega
  | succ m ih =>
    intro k hk hi
    have pb := ptn_b (g := g) k
    refine tl_iload_n rfl rfl ?_
    refine tl_aload_n rfl rfl ?_
    refine tl_geti (c := 12) (k9 := 25) rfl rfl rfl ?_
    rw [hg.1]
    refine tl_icmp_ge (tgt := 34) rfl rfl ⟨by omega, by omega⟩ ⟨by omega, by omega⟩ (fun c1 => ?_) (fun c1 => ?_)
    · skip
      refine tl_iload_n rfl rfl ?_
      refine tl_iret rfl ?_
      -- leaf 0 at 35
      have e : k = n := by omega
      rw [e]
      exact hP
    · show jT _ _ 12 _ _ _ _
      show jT _ _ 12 _ _ _ _
      refine tl_iload_n rfl rfl ?_
      refine tl_aload_n rfl rfl ?_
      refine tl_iload_n rfl rfl ?_
      refine tl_v1i (c9 := 12) (r_begins l h g n hg hv k (by omega)) rfl rfl rfl rfl rfl (Nat.le_of_ble_eq_true rfl) (fun z1 h1 p1 => ?_)
      obtain ⟨q1, rfl⟩ := p1
      have q1 := q1.symm
      subst q1
      have b1 := zb_b (bgn g k)
      refine tl_if_eq (tgt := 25) rfl rfl ⟨by omega, by omega⟩ (fun c2 => ?_) (fun c2 => ?_)
      · skip
        have e1 := zb0 c2
        refine tl_iconst rfl ?_
        refine tl_iadd rfl ?_
        show jT _ _ 27 _ _ _ _
        refine tl_istore_n rfl (Nat.le_of_ble_eq_true rfl) rfl ?_
        refine tl_iinc rfl rfl rfl ?_
        refine tl_goto (tgt := 4) rfl rfl ?_
        show jT _ _ 4 _ _ _ _
        -- leaf 1 at 4
        refine jT.loc ?_ (ih (k + 1) (by omega) (by omega))
        first | (rw [ptn_s, zb_t e1]; rfl) | (rw [ptn_s, zb_f e1]; rfl)
      · show jT _ _ 21 _ _ _ _
        have e1 := zb1' c2
        refine tl_iconst rfl ?_
        refine tl_goto (tgt := 26) rfl rfl ?_
        refine tl_iadd rfl ?_
        refine tl_istore_n rfl (Nat.le_of_ble_eq_true rfl) rfl ?_
        show jT _ _ 28 _ _ _ _
        refine tl_iinc rfl rfl rfl ?_
        refine tl_goto (tgt := 4) rfl rfl ?_
        show jT _ _ 4 _ _ _ _
        -- leaf 2 at 4
        refine jT.loc ?_ (ih (k + 1) (by omega) (by omega))
        first | (rw [ptn_s, zb_t e1]; rfl) | (rw [ptn_s, zb_f e1]; rfl)
set_option maxRecDepth 20000 in
set_option maxHeartbeats 1000000 in
theorem r_partsNow (l : Launch) (h g : jH) (n : Nat) (hg : OGR h g n) (hv : OGv g n) : cI l 263 [.ref 388] h (fun z h' => h' = h ∧ z = ptn g n) := by
  refine cI.of rfl rfl ?_
  refine tl_iconst rfl ?_
  refine tl_istore_n rfl (Nat.le_of_ble_eq_true rfl) rfl ?_
  refine tl_iconst rfl ?_
  refine tl_istore_n rfl (Nat.le_of_ble_eq_true rfl) rfl ?_
  show jT _ _ 4 _ _ _ _
  -- leaf 0 at 4
  exact r_cnt_lp l h g n hg hv _ ⟨_, rfl, rfl, rfl⟩ _ 0 (Nat.lt_succ_self _) (Nat.zero_le _)
set_option maxRecDepth 20000 in
set_option maxHeartbeats 1000000 in
theorem r_scan (l : Launch) (h g : jH) (n : Nat) (hg : OGR h g n) (hv : OGv g n) (b0 : Int) (k : Nat) (hkn : k < n) (e1 : bgn g k = true) (P : Option Value → jH → Prop) (hx : ∀ y5, jT l 264 56 [some (.ref 388), some (.int (jI (b0))), some (.int (jI (((k + (cps g n k) + (exs g n (k + cps g n k)) : Nat) : Int)))), some (.int (jI ((k : Int)))), some (.int (jI (((cps g n k) : Int)))), y5] [] h P) : ∀ (m : Nat) (q : Nat) (y5 : Option Value), n - q < m → (q < (cps g n k) + (exs g n (k + cps g n k))) → jT l 264 17 [some (.ref 388), some (.int (jI (b0))), some (.int (jI (((k + q : Nat) : Int)))), some (.int (jI ((k : Int)))), some (.int (jI (((min q (cps g n k) : Nat) : Int)))), y5] [] h P := by
  have n64 := hv.1
  have cb := cps_b hv hkn
  have xb := exs_s (g := g) (n := n) (i := k + cps g n k) n64 cb.2.1
  have gb := (hv.2 k hkn).1
  have ps := part_s n64 hkn e1
  intro m
  induction m with
  | zero => intro q y5 hk; omega
  | succ m ih =>
    intro q y5 hk hi
    have gq : q < (cps g n k) → g 0 (k + q) ≠ -1 := fun z => by have h0 : g 0 k ≠ -1 := (fun w => by have := cps_0 (n := n) w; omega); have := cps_pl n64 hkn h0 q z; omega
    have gq2 : ¬ q < (cps g n k) → g 0 (k + q) = -1 := fun z => by have := xb.2.1 (q - (cps g n k)) (by omega); rwa [show k + (cps g n k) + (q - (cps g n k)) = k + q by omega] at this
    have bq := (hv.2 (k + q) (by omega)).1
    refine tl_iload rfl rfl ?_
    refine tl_aload_n rfl rfl ?_
    refine tl_getr (c := 12) (k9 := 23) (b := 403) rfl rfl rfl rfl ?_
    refine tl_iload_n rfl rfl ?_
    refine tl_iald (n := 64) rfl rfl rfl (by omega) (by omega) ?_
    rw [Int.toNat_natCast, (hg.2 (k + q) (by omega)).1]
    refine tl_iconst rfl ?_
    show jT _ _ 26 _ _ _ _
    refine tl_icmp_ne (tgt := 33) rfl rfl ⟨by omega, by omega⟩ ⟨by omega, by omega⟩ (fun c1 => ?_) (fun c1 => ?_)
    · skip
      refine tl_iconst rfl ?_
      refine tl_iadd rfl ?_
      refine tl_istore rfl (Nat.le_of_ble_eq_true rfl) rfl ?_
      refine tl_iinc rfl rfl rfl ?_
      refine tl_iload_n rfl rfl ?_
      refine tl_aload_n rfl rfl ?_
      show jT _ _ 42 _ _ _ _
      refine tl_geti (c := 12) (k9 := 25) rfl rfl rfl ?_
      rw [hg.1]
      refine tl_icmp_ge (tgt := 56) rfl rfl ⟨by omega, by omega⟩ ⟨by omega, by omega⟩ (fun c2 => ?_) (fun c2 => ?_)
      · skip
        show jT _ _ 56 _ _ _ _
        -- leaf 0 at 56
        have cq := Decidable.em (q < (cps g n k))
        have eq1 : q + 1 = (cps g n k) + (exs g n (k + cps g n k)) := by
          by_cases c : q + 1 = (cps g n k) + (exs g n (k + cps g n k))
          · exact c
          · first
              | (exfalso; omega)
              | (have := ps.2.2.1 (k + (q + 1)) (by omega) (by omega); rw [e2] at this; exact absurd this (by decide))
        refine jT.loc ?_ (hx y5)
        by_cases c : q < (cps g n k)
        · have := gq c
          first
            | (exfalso; omega)
            | (rw [show ((k + (cps g n k) + (exs g n (k + cps g n k)) : Nat) : Int) = ((k + q : Nat) : Int) + 1 by omega, show ((cps g n k) : Int) = ((min q (cps g n k) : Nat) : Int) + 1 by omega]; rfl)
            | (rw [show ((k + (cps g n k) + (exs g n (k + cps g n k)) : Nat) : Int) = ((k + (q + 1) : Nat) : Int) by omega, show ((cps g n k) : Int) = ((min q (cps g n k) : Nat) : Int) + 1 by omega]; rfl)
        · have := gq2 c
          first
            | (exfalso; omega)
            | (rw [show ((k + (cps g n k) + (exs g n (k + cps g n k)) : Nat) : Int) = ((k + q : Nat) : Int) + 1 by omega, show ((cps g n k) : Int) = ((min q (cps g n k) : Nat) : Int) + 0 by omega]; rfl)
            | (rw [show ((k + (cps g n k) + (exs g n (k + cps g n k)) : Nat) : Int) = ((k + (q + 1) : Nat) : Int) by omega, show ((cps g n k) : Int) = ((min q (cps g n k) : Nat) : Int) + 0 by omega]; rfl)
      · show jT _ _ 48 _ _ _ _
        refine tl_aload_n rfl rfl ?_
        refine tl_iload_n rfl rfl ?_
        rw [show ((k + q : Nat) : Int) + 1 = ((k + (q + 1) : Nat) : Int) by omega]
        refine tl_v1i (c9 := 12) (r_begins l h g n hg hv (k + (q + 1)) (by omega)) rfl rfl rfl rfl rfl (Nat.le_of_ble_eq_true rfl) (fun z3 h3 p3 => ?_)
        obtain ⟨q3, rfl⟩ := p3
        have q3 := q3.symm
        subst q3
        have b3 := zb_b (bgn g (k + (q + 1)))
        refine tl_if_eq (tgt := 17) rfl rfl ⟨by omega, by omega⟩ (fun c3 => ?_) (fun c3 => ?_)
        · skip
          have e2 := zb0 c3
          show jT _ _ 17 _ _ _ _
          -- leaf 1 at 17
          have lt : q + 1 < (cps g n k) + (exs g n (k + cps g n k)) := by
            by_cases c : q + 1 = (cps g n k) + (exs g n (k + cps g n k))
            · have := ps.2.2.2 (by omega)
              rw [show k + (cps g n k) + (exs g n (k + cps g n k)) = k + (q + 1) by omega, e2] at this; exact absurd this (by decide)
            · omega
          refine jT.loc ?_ (ih (q + 1) y5 (by omega) lt)
          by_cases c : q < (cps g n k)
          · have := gq c
            first
              | (exfalso; omega)
              | (rw [show ((min (q + 1) (cps g n k) : Nat) : Int) = ((min q (cps g n k) : Nat) : Int) + 1 by omega]; rfl)
          · have := gq2 c
            first
              | (exfalso; omega)
              | (rw [show ((min (q + 1) (cps g n k) : Nat) : Int) = ((min q (cps g n k) : Nat) : Int) + 0 by omega]; rfl)
        · show jT _ _ 56 _ _ _ _
          have e2 := zb1' c3
          show jT _ _ 56 _ _ _ _
          -- leaf 2 at 56
          have cq := Decidable.em (q < (cps g n k))
          have eq1 : q + 1 = (cps g n k) + (exs g n (k + cps g n k)) := by
            by_cases c : q + 1 = (cps g n k) + (exs g n (k + cps g n k))
            · exact c
            · first
                | (exfalso; omega)
                | (have := ps.2.2.1 (k + (q + 1)) (by omega) (by omega); rw [e2] at this; exact absurd this (by decide))
          refine jT.loc ?_ (hx y5)
          by_cases c : q < (cps g n k)
          · have := gq c
            first
              | (exfalso; omega)
              | (rw [show ((k + (cps g n k) + (exs g n (k + cps g n k)) : Nat) : Int) = ((k + q : Nat) : Int) + 1 by omega, show ((cps g n k) : Int) = ((min q (cps g n k) : Nat) : Int) + 1 by omega]; rfl)
              | (rw [show ((k + (cps g n k) + (exs g n (k + cps g n k)) : Nat) : Int) = ((k + (q + 1) : Nat) : Int) by omega, show ((cps g n k) : Int) = ((min q (cps g n k) : Nat) : Int) + 1 by omega]; rfl)
          · have := gq2 c
            first
              | (exfalso; omega)
              | (rw [show ((k + (cps g n k) + (exs g n (k + cps g n k)) : Nat) : Int) = ((k + q : Nat) : Int) + 1 by omega, show ((cps g n k) : Int) = ((min q (cps g n k) : Nat) : Int) + 0 by omega]; rfl)
              | (rw [show ((k + (cps g n k) + (exs g n (k + cps g n k)) : Nat) : Int) = ((k + (q + 1) : Nat) : Int) by omega, show ((cps g n k) : Int) = ((min q (cps g n k) : Nat) : Int) + 0 by omega]; rfl)
    · show jT _ _ 29 _ _ _ _
      refine tl_iconst rfl ?_
      show jT _ _ 30 _ _ _ _
      refine tl_goto (tgt := 34) rfl rfl ?_
      refine tl_iadd rfl ?_
      refine tl_istore rfl (Nat.le_of_ble_eq_true rfl) rfl ?_
      refine tl_iinc rfl rfl rfl ?_
      refine tl_iload_n rfl rfl ?_
      refine tl_aload_n rfl rfl ?_
      refine tl_geti (c := 12) (k9 := 25) rfl rfl rfl ?_
      rw [hg.1]
      show jT _ _ 45 _ _ _ _
      refine tl_icmp_ge (tgt := 56) rfl rfl ⟨by omega, by omega⟩ ⟨by omega, by omega⟩ (fun c4 => ?_) (fun c4 => ?_)
      · skip
        show jT _ _ 56 _ _ _ _
        -- leaf 3 at 56
        have cq := Decidable.em (q < (cps g n k))
        have eq1 : q + 1 = (cps g n k) + (exs g n (k + cps g n k)) := by
          by_cases c : q + 1 = (cps g n k) + (exs g n (k + cps g n k))
          · exact c
          · first
              | (exfalso; omega)
              | (have := ps.2.2.1 (k + (q + 1)) (by omega) (by omega); rw [e2] at this; exact absurd this (by decide))
        refine jT.loc ?_ (hx y5)
        by_cases c : q < (cps g n k)
        · have := gq c
          first
            | (exfalso; omega)
            | (rw [show ((k + (cps g n k) + (exs g n (k + cps g n k)) : Nat) : Int) = ((k + q : Nat) : Int) + 1 by omega, show ((cps g n k) : Int) = ((min q (cps g n k) : Nat) : Int) + 1 by omega]; rfl)
            | (rw [show ((k + (cps g n k) + (exs g n (k + cps g n k)) : Nat) : Int) = ((k + (q + 1) : Nat) : Int) by omega, show ((cps g n k) : Int) = ((min q (cps g n k) : Nat) : Int) + 1 by omega]; rfl)
        · have := gq2 c
          first
            | (exfalso; omega)
            | (rw [show ((k + (cps g n k) + (exs g n (k + cps g n k)) : Nat) : Int) = ((k + q : Nat) : Int) + 1 by omega, show ((cps g n k) : Int) = ((min q (cps g n k) : Nat) : Int) + 0 by omega]; rfl)
            | (rw [show ((k + (cps g n k) + (exs g n (k + cps g n k)) : Nat) : Int) = ((k + (q + 1) : Nat) : Int) by omega, show ((cps g n k) : Int) = ((min q (cps g n k) : Nat) : Int) + 0 by omega]; rfl)
      · show jT _ _ 48 _ _ _ _
        refine tl_aload_n rfl rfl ?_
        refine tl_iload_n rfl rfl ?_
        rw [show ((k + q : Nat) : Int) + 1 = ((k + (q + 1) : Nat) : Int) by omega]
        refine tl_v1i (c9 := 12) (r_begins l h g n hg hv (k + (q + 1)) (by omega)) rfl rfl rfl rfl rfl (Nat.le_of_ble_eq_true rfl) (fun z3 h3 p3 => ?_)
        obtain ⟨q3, rfl⟩ := p3
        have q3 := q3.symm
        subst q3
        have b3 := zb_b (bgn g (k + (q + 1)))
        refine tl_if_eq (tgt := 17) rfl rfl ⟨by omega, by omega⟩ (fun c5 => ?_) (fun c5 => ?_)
        · skip
          have e2 := zb0 c5
          show jT _ _ 17 _ _ _ _
          -- leaf 4 at 17
          have lt : q + 1 < (cps g n k) + (exs g n (k + cps g n k)) := by
            by_cases c : q + 1 = (cps g n k) + (exs g n (k + cps g n k))
            · have := ps.2.2.2 (by omega)
              rw [show k + (cps g n k) + (exs g n (k + cps g n k)) = k + (q + 1) by omega, e2] at this; exact absurd this (by decide)
            · omega
          refine jT.loc ?_ (ih (q + 1) y5 (by omega) lt)
          by_cases c : q < (cps g n k)
          · have := gq c
            first
              | (exfalso; omega)
              | (rw [show ((min (q + 1) (cps g n k) : Nat) : Int) = ((min q (cps g n k) : Nat) : Int) + 1 by omega]; rfl)
          · have := gq2 c
            first
              | (exfalso; omega)
              | (rw [show ((min (q + 1) (cps g n k) : Nat) : Int) = ((min q (cps g n k) : Nat) : Int) + 0 by omega]; rfl)
        · show jT _ _ 56 _ _ _ _
          have e2 := zb1' c5
          show jT _ _ 56 _ _ _ _
          -- leaf 5 at 56
          have cq := Decidable.em (q < (cps g n k))
          have eq1 : q + 1 = (cps g n k) + (exs g n (k + cps g n k)) := by
            by_cases c : q + 1 = (cps g n k) + (exs g n (k + cps g n k))
            · exact c
            · first
                | (exfalso; omega)
                | (have := ps.2.2.1 (k + (q + 1)) (by omega) (by omega); rw [e2] at this; exact absurd this (by decide))
          refine jT.loc ?_ (hx y5)
          by_cases c : q < (cps g n k)
          · have := gq c
            first
              | (exfalso; omega)
              | (rw [show ((k + (cps g n k) + (exs g n (k + cps g n k)) : Nat) : Int) = ((k + q : Nat) : Int) + 1 by omega, show ((cps g n k) : Int) = ((min q (cps g n k) : Nat) : Int) + 1 by omega]; rfl)
              | (rw [show ((k + (cps g n k) + (exs g n (k + cps g n k)) : Nat) : Int) = ((k + (q + 1) : Nat) : Int) by omega, show ((cps g n k) : Int) = ((min q (cps g n k) : Nat) : Int) + 1 by omega]; rfl)
          · have := gq2 c
            first
              | (exfalso; omega)
              | (rw [show ((k + (cps g n k) + (exs g n (k + cps g n k)) : Nat) : Int) = ((k + q : Nat) : Int) + 1 by omega, show ((cps g n k) : Int) = ((min q (cps g n k) : Nat) : Int) + 0 by omega]; rfl)
              | (rw [show ((k + (cps g n k) + (exs g n (k + cps g n k)) : Nat) : Int) = ((k + (q + 1) : Nat) : Int) by omega, show ((cps g n k) : Int) = ((min q (cps g n k) : Nat) : Int) + 0 by omega]; rfl)
set_option maxRecDepth 20000 in
set_option maxHeartbeats 1000000 in
theorem r_addP_t (l : Launch) (g : jH) (n : Nat) (hv : OGv g n) (L0 : List Int) (hL : L0.length ≤ 7) (mem : jH) (hgm : OGR mem g n) (k : Nat) (hkn : k < n) (e1 : bgn g k = true) (i1 : ML mem (ppF g n L0 k).1) (P : Option Value → jH → Prop) (hx : ∀ m2 y3 y4 y5, ML m2 (ppF g n L0 (k + 1)).1 → FM mem m2 → jT l 264 4 [some (.ref 388), some (.int (jI ((ppF g n L0 (k + 1)).2))), some (.int (jI (((k + (cps g n k) + (exs g n (k + cps g n k)) : Nat) : Int)))), y3, y4, y5] [] m2 P) : jT l 264 95 [some (.ref 388), some (.int (jI ((ppF g n L0 k).2))), some (.int (jI (((k + (cps g n k) + (exs g n (k + cps g n k)) : Nat) : Int)))), some (.int (jI ((k : Int)))), some (.int (jI (((cps g n k) : Int)))), some (.int (jI ((if (cps g n k) = 0 then 0 else g 0 k - (ppF g n L0 k).2))))] [.int (jI (zz (if (cps g n k) = 0 then 0 else g 0 k - (ppF g n L0 k).2))), .ref 388] mem P := by
  have n64 := hv.1
  have cb := cps_b hv hkn
  have xb := exs_s (g := g) (n := n) (i := k + cps g n k) n64 cb.2.1
  have gb := (hv.2 k hkn).1
  have ps := part_s n64 hkn e1
  obtain ⟨pb1, pb2, pb3⟩ := ppF_b (L0 := L0) hv k (by omega)
  have pn := ptn_b (g := g) k
  have zb9 : 0 ≤ zz (if (cps g n k) = 0 then 0 else g 0 k - (ppF g n L0 k).2) ∧ zz (if (cps g n k) = 0 then 0 else g 0 k - (ppF g n L0 k).2) < 128 := by
    rw [zz]
    by_cases z : (cps g n k) = 0
    · rw [if_pos z]; omega
    · rw [if_neg z]; have := cb.2.2.1 z; split <;> omega
  have l1 := (nm_len (v := zz (if (cps g n k) = 0 then 0 else g 0 k - (ppF g n L0 k).2))).2.2 zb9.2
  have l2 := (nm_len (v := ((cps g n k) : Int))).2.2 (by omega)
  refine tl_v1v (c9 := 12) (r_addNum l mem (ppF g n L0 k).1 i1 (by omega) (zz (if (cps g n k) = 0 then 0 else g 0 k - (ppF g n L0 k).2)) (by omega) (by omega)) rfl rfl rfl rfl rfl (Nat.le_of_ble_eq_true rfl) (fun h1 p1 => ?_)
  obtain ⟨k1, f1⟩ := p1
  refine tl_aload_n rfl rfl ?_
  refine tl_iload rfl rfl ?_
  refine tl_v1v (c9 := 12) (r_addNum l h1 ((ppF g n L0 k).1 ++ nm (zz (if (cps g n k) = 0 then 0 else g 0 k - (ppF g n L0 k).2))) k1 (by rw [List.length_append, l1]; omega) ((cps g n k) : Int) (by omega) (by omega)) rfl rfl rfl rfl rfl (Nat.le_of_ble_eq_true rfl) (fun h2 p2 => ?_)
  obtain ⟨k2, f2⟩ := p2
  refine tl_aload_n rfl rfl ?_
  refine tl_iload_n rfl rfl ?_
  show jT _ _ 106 _ _ _ _
  refine tl_iload_n rfl rfl ?_
  refine tl_isub rfl ?_
  refine tl_iload rfl rfl ?_
  refine tl_isub rfl ?_
  rw [show ((k + (cps g n k) + (exs g n (k + cps g n k)) : Nat) : Int) - (k : Int) - ((cps g n k) : Int) = ((exs g n (k + cps g n k)) : Int) by omega]
  refine tl_v1v (c9 := 12) (r_addNum l h2 ((ppF g n L0 k).1 ++ nm (zz (if (cps g n k) = 0 then 0 else g 0 k - (ppF g n L0 k).2)) ++ nm ((cps g n k) : Int)) k2 (by rw [List.length_append, List.length_append, l1, l2]; omega) ((exs g n (k + cps g n k)) : Int) (by omega) (by omega)) rfl rfl rfl rfl rfl (Nat.le_of_ble_eq_true rfl) (fun h4 p4 => ?_)
  obtain ⟨k4, f4⟩ := p4
  refine tl_iload rfl rfl ?_
  refine tl_if_ne (tgt := 123) rfl rfl ⟨by omega, by omega⟩ (fun c1 => ?_) (fun c1 => ?_)
  · skip
    show jT _ _ 123 _ _ _ _
    refine tl_aload_n rfl rfl ?_
    refine tl_getr (c := 12) (k9 := 23) (b := 403) rfl rfl rfl rfl ?_
    refine tl_iload_n rfl rfl ?_
    refine tl_iald (n := 64) rfl rfl rfl (by omega) (by omega) ?_
    rw [Int.toNat_natCast, ((((hgm.fm f1).fm f2).fm f4).2 k hkn).1]
    refine tl_iload rfl rfl ?_
    refine tl_iadd rfl ?_
    refine tl_istore_n rfl (Nat.le_of_ble_eq_true rfl) rfl ?_
    show jT _ _ 133 _ _ _ _
    refine tl_goto (tgt := 4) rfl rfl ?_
    show jT _ _ 4 _ _ _ _
    -- leaf 0 at 4
    have st := hx h4 (some (.int (jI ((k : Int))))) (some (.int (jI (((cps g n k) : Int))))) (some (.int (jI ((if (cps g n k) = 0 then 0 else g 0 k - (ppF g n L0 k).2))))) (by rw [ppF_t e1]; exact k4) (f1.trans (f2.trans f4))
    rw [ppF_t e1] at st
    refine jT.loc ?_ st
    first
      | (rw [show (if (cps g n k) = 0 then (0 : Int) else g 0 k + ((cps g n k) : Int)) = 0 by rw [if_pos (by omega)]]; rfl)
      | (rw [show (if (cps g n k) = 0 then (0 : Int) else g 0 k + ((cps g n k) : Int)) = g 0 k + ((cps g n k) : Int) by rw [if_neg (by omega)]]; rfl)
  · show jT _ _ 119 _ _ _ _
    refine tl_iconst rfl ?_
    refine tl_goto (tgt := 132) rfl rfl ?_
    refine tl_istore_n rfl (Nat.le_of_ble_eq_true rfl) rfl ?_
    refine tl_goto (tgt := 4) rfl rfl ?_
    show jT _ _ 4 _ _ _ _
    -- leaf 1 at 4
    have st := hx h4 (some (.int (jI ((k : Int))))) (some (.int (jI (((cps g n k) : Int))))) (some (.int (jI ((if (cps g n k) = 0 then 0 else g 0 k - (ppF g n L0 k).2))))) (by rw [ppF_t e1]; exact k4) (f1.trans (f2.trans f4))
    rw [ppF_t e1] at st
    refine jT.loc ?_ st
    first
      | (rw [show (if (cps g n k) = 0 then (0 : Int) else g 0 k + ((cps g n k) : Int)) = 0 by rw [if_pos (by omega)]]; rfl)
      | (rw [show (if (cps g n k) = 0 then (0 : Int) else g 0 k + ((cps g n k) : Int)) = g 0 k + ((cps g n k) : Int) by rw [if_neg (by omega)]]; rfl)
set_option maxRecDepth 20000 in
set_option maxHeartbeats 1000000 in
theorem r_addP_lp (l : Launch) (h g : jH) (n : Nat) (hg : OGR h g n) (hv : OGv g n) (L0 : List Int) (hL : L0.length ≤ 7) (P : Option Value → jH → Prop) (hP : ∀ mem, (ML mem (ppF g n L0 n).1 ∧ FM h mem) → P none mem) : ∀ (m : Nat) (k : Nat) (mem : jH) (y3 : Option Value) (y4 : Option Value) (y5 : Option Value), n - k < m → (k ≤ n ∧ (k < n → bgn g k = true) ∧ ML mem (ppF g n L0 k).1 ∧ FM h mem) → jT l 264 4 [some (.ref 388), some (.int (jI ((ppF g n L0 k).2))), some (.int (jI ((k : Int)))), y3, y4, y5] [] mem P := by
  have n64 := hv.1
  intro m
  induction m with
  | zero => intro k mem y3 y4 y5 hk; omega
  | succ m ih =>
    intro k mem y3 y4 y5 hk hi
    obtain ⟨i0, ib, i1, fr⟩ := hi
    have hgm := hg.fm fr
    obtain ⟨pb1, pb2, pb3⟩ := ppF_b (L0 := L0) hv k i0
    refine tl_iload_n rfl rfl ?_
    refine tl_aload_n rfl rfl ?_
    refine tl_geti (c := 12) (k9 := 25) rfl rfl rfl ?_
    rw [hgm.1]
    refine tl_icmp_ge (tgt := 136) rfl rfl ⟨by omega, by omega⟩ ⟨by omega, by omega⟩ (fun c1 => ?_) (fun c1 => ?_)
    · skip
      refine tl_ret rfl ?_
      -- leaf 0 at 136
      have e : k = n := by omega
      rw [e] at i1
      exact hP mem ⟨i1, fr⟩
    · show jT _ _ 12 _ _ _ _
      refine tl_iload_n rfl rfl ?_
      show jT _ _ 13 _ _ _ _
      refine tl_istore_n rfl (Nat.le_of_ble_eq_true rfl) rfl ?_
      refine tl_iconst rfl ?_
      refine tl_istore rfl (Nat.le_of_ble_eq_true rfl) rfl ?_
      show jT _ _ 17 _ _ _ _
      -- leaf 1 at 17
      have e1 := ib (by omega)
      have cb := cps_b hv (show k < n by omega)
      have gb := (hv.2 k (by omega)).1
      have ps := part_s n64 (show k < n by omega) e1
      have tt := r_addP_t l g n hv L0 hL mem hgm k (by omega) e1 i1 P (fun m2 y3 y4 y5 q1 q2 => by
        have sk : ppF g n L0 (k + (cps g n k) + (exs g n (k + cps g n k))) = ppF g n L0 (k + 1) := by
          have := ppF_skip (g := g) (n := n) (L0 := L0) (i := k + 1) ((cps g n k) + (exs g n (k + cps g n k)) - 1) (fun j j1 j2 => ps.2.2.1 j (by omega) (by omega))
          rwa [show k + 1 + ((cps g n k) + (exs g n (k + cps g n k)) - 1) = k + (cps g n k) + (exs g n (k + cps g n k)) by omega] at this
        have := ih (k + (cps g n k) + (exs g n (k + cps g n k))) m2 y3 y4 y5 (by omega) ⟨ps.2.1, fun z => ps.2.2.2 z, by rw [sk]; exact q1, fr.trans q2⟩
        rw [sk] at this
        exact this)
      refine jT.loc ?_ (r_scan l mem g n hgm hv (ppF g n L0 k).2 k (by omega) e1 P (fun y5 => ?_) _ 0 y5 (Nat.lt_succ_self _) (by omega))
      · rw [show ((k + 0 : Nat) : Int) = (k : Int) by omega, show ((min 0 (cps g n k) : Nat) : Int) = 0 by omega]
        rfl
      · skip
        refine tl_iload rfl rfl ?_
        refine tl_if_ne (tgt := 65) rfl rfl ⟨by omega, by omega⟩ (fun c1 => ?_) (fun c1 => ?_)
        · skip
          refine tl_aload_n rfl rfl ?_
          refine tl_getr (c := 12) (k9 := 23) (b := 403) rfl rfl rfl rfl ?_
          refine tl_iload_n rfl rfl ?_
          refine tl_iald (n := 64) rfl rfl rfl (by omega) (by omega) ?_
          rw [Int.toNat_natCast, (hgm.2 k (by omega)).1]
          show jT _ _ 71 _ _ _ _
          refine tl_iload_n rfl rfl ?_
          refine tl_isub rfl ?_
          refine tl_istore rfl (Nat.le_of_ble_eq_true rfl) rfl ?_
          refine tl_aload_n rfl rfl ?_
          refine tl_iload rfl rfl ?_
          refine tl_if_ge (tgt := 91) rfl rfl ⟨by omega, by omega⟩ (fun c2 => ?_) (fun c2 => ?_)
          · skip
            refine tl_iconst rfl ?_
            show jT _ _ 92 _ _ _ _
            refine tl_iload rfl rfl ?_
            refine tl_imul rfl ?_
            show jT _ _ 95 _ _ _ _
            -- leaf 0 at 95
            first
              | (exfalso; omega)
              | (have es : (if (cps g n k) = 0 then 0 else g 0 k - (ppF g n L0 k).2) = 0 := by rw [if_pos (by omega)]
                 have ez : zz (if (cps g n k) = 0 then 0 else g 0 k - (ppF g n L0 k).2) = 2 * 0 := by rw [es, zz, if_neg (by omega)]
                 rw [ez, es] at tt
                 exact tt)
              | (have es : (if (cps g n k) = 0 then 0 else g 0 k - (ppF g n L0 k).2) = g 0 k - (ppF g n L0 k).2 := by rw [if_neg (by omega)]
                 have ez : zz (if (cps g n k) = 0 then 0 else g 0 k - (ppF g n L0 k).2) = -2 * (g 0 k - (ppF g n L0 k).2) - 1 := by rw [es, zz, if_pos (by omega)]
                 rw [ez, es] at tt
                 exact tt)
              | (have es : (if (cps g n k) = 0 then 0 else g 0 k - (ppF g n L0 k).2) = g 0 k - (ppF g n L0 k).2 := by rw [if_neg (by omega)]
                 have ez : zz (if (cps g n k) = 0 then 0 else g 0 k - (ppF g n L0 k).2) = 2 * (g 0 k - (ppF g n L0 k).2) := by rw [es, zz, if_neg (by omega)]
                 rw [ez, es] at tt
                 exact tt)
          · show jT _ _ 81 _ _ _ _
            refine tl_bipush rfl rfl ?_
            refine tl_iload rfl rfl ?_
            refine tl_imul rfl ?_
            refine tl_iconst rfl ?_
            refine tl_isub rfl ?_
            show jT _ _ 88 _ _ _ _
            refine tl_goto (tgt := 95) rfl rfl ?_
            show jT _ _ 95 _ _ _ _
            -- leaf 1 at 95
            first
              | (exfalso; omega)
              | (have es : (if (cps g n k) = 0 then 0 else g 0 k - (ppF g n L0 k).2) = 0 := by rw [if_pos (by omega)]
                 have ez : zz (if (cps g n k) = 0 then 0 else g 0 k - (ppF g n L0 k).2) = 2 * 0 := by rw [es, zz, if_neg (by omega)]
                 rw [ez, es] at tt
                 exact tt)
              | (have es : (if (cps g n k) = 0 then 0 else g 0 k - (ppF g n L0 k).2) = g 0 k - (ppF g n L0 k).2 := by rw [if_neg (by omega)]
                 have ez : zz (if (cps g n k) = 0 then 0 else g 0 k - (ppF g n L0 k).2) = -2 * (g 0 k - (ppF g n L0 k).2) - 1 := by rw [es, zz, if_pos (by omega)]
                 rw [ez, es] at tt
                 exact tt)
              | (have es : (if (cps g n k) = 0 then 0 else g 0 k - (ppF g n L0 k).2) = g 0 k - (ppF g n L0 k).2 := by rw [if_neg (by omega)]
                 have ez : zz (if (cps g n k) = 0 then 0 else g 0 k - (ppF g n L0 k).2) = 2 * (g 0 k - (ppF g n L0 k).2) := by rw [es, zz, if_neg (by omega)]
                 rw [ez, es] at tt
                 exact tt)
        · show jT _ _ 61 _ _ _ _
          refine tl_iconst rfl ?_
          refine tl_goto (tgt := 73) rfl rfl ?_
          refine tl_istore rfl (Nat.le_of_ble_eq_true rfl) rfl ?_
          refine tl_aload_n rfl rfl ?_
          refine tl_iload rfl rfl ?_
          refine tl_if_ge (tgt := 91) rfl rfl ⟨by omega, by omega⟩ (fun c3 => ?_) (fun c3 => ?_)
          · skip
            show jT _ _ 91 _ _ _ _
            refine tl_iconst rfl ?_
            refine tl_iload rfl rfl ?_
            refine tl_imul rfl ?_
            show jT _ _ 95 _ _ _ _
            -- leaf 2 at 95
            first
              | (exfalso; omega)
              | (have es : (if (cps g n k) = 0 then 0 else g 0 k - (ppF g n L0 k).2) = 0 := by rw [if_pos (by omega)]
                 have ez : zz (if (cps g n k) = 0 then 0 else g 0 k - (ppF g n L0 k).2) = 2 * 0 := by rw [es, zz, if_neg (by omega)]
                 rw [ez, es] at tt
                 exact tt)
              | (have es : (if (cps g n k) = 0 then 0 else g 0 k - (ppF g n L0 k).2) = g 0 k - (ppF g n L0 k).2 := by rw [if_neg (by omega)]
                 have ez : zz (if (cps g n k) = 0 then 0 else g 0 k - (ppF g n L0 k).2) = -2 * (g 0 k - (ppF g n L0 k).2) - 1 := by rw [es, zz, if_pos (by omega)]
                 rw [ez, es] at tt
                 exact tt)
              | (have es : (if (cps g n k) = 0 then 0 else g 0 k - (ppF g n L0 k).2) = g 0 k - (ppF g n L0 k).2 := by rw [if_neg (by omega)]
                 have ez : zz (if (cps g n k) = 0 then 0 else g 0 k - (ppF g n L0 k).2) = 2 * (g 0 k - (ppF g n L0 k).2) := by rw [es, zz, if_neg (by omega)]
                 rw [ez, es] at tt
                 exact tt)
          · show jT _ _ 81 _ _ _ _
            exfalso; omega
set_option maxRecDepth 20000 in
set_option maxHeartbeats 1000000 in
theorem r_addParts (l : Launch) (h g : jH) (n : Nat) (hg : OGR h g n) (hv : OGv g n) (L0 : List Int) (hL : L0.length ≤ 7) (k0 : ML h L0) : cV l 264 [.ref 388] h (fun h' => ML h' (ppF g n L0 n).1 ∧ FM h h') := by
  refine cV.of rfl rfl ?_
  refine tl_iconst rfl ?_
  refine tl_istore_n rfl (Nat.le_of_ble_eq_true rfl) rfl ?_
  refine tl_iconst rfl ?_
  refine tl_istore_n rfl (Nat.le_of_ble_eq_true rfl) rfl ?_
  show jT _ _ 4 _ _ _ _
  -- leaf 0 at 4
  exact r_addP_lp l h g n hg hv L0 hL _ (fun mem hi => ⟨rfl, hi⟩) _ 0 h _ _ _ (Nat.lt_succ_self _) ⟨Nat.zero_le _, fun _ => bgn_t' (Or.inl rfl), k0, FM.rfl'⟩
