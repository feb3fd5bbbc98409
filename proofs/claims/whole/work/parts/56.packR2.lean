/-! packing, of the reference: the three ways, the shortest, the whole patch -/
def pkW (V : List Int) (w : Nat) : List Int := if w = 0 then pk0 V else if w = 1 then pk1 V else pk2 V
set_option maxRecDepth 20000 in
set_option maxHeartbeats 1000000 in
theorem r_zeros_lp (l : Launch) (h : jH) (V : List Int) (kV : BL h V) (v64 : V.length ≤ 64) (hV : LB V) (k : Nat) (hk9 : k ≤ V.length) (P : Option Value → jH → Prop) (hP : P (some (.int (jI (zrn V k : Int)))) h) : ∀ (m : Nat) (q : Nat), V.length - q < m → (k + q ≤ V.length ∧ ∀ i, i < q → zrP V k i = true) → jT l 265 2 [some (.ref 388), some (.int (jI ((k : Int)))), some (.int (jI ((k : Int) + (q : Int))))] [] h P := by
  intro m
  induction m with
  | zero => intro q hk; omega
  | succ m ih =>
    intro q hk hi
    obtain ⟨i0, i1⟩ := hi
    refine tl_iload_n rfl rfl ?_
    refine tl_aload_n rfl rfl ?_
    refine tl_geti (c := 12) (k9 := 29) rfl rfl rfl ?_
    rw [kV.1]
    refine tl_icmp_ge (tgt := 25) rfl rfl ⟨by omega, by omega⟩ ⟨by omega, by omega⟩ (fun c1 => ?_) (fun c1 => ?_)
    · skip
      refine tl_iload_n rfl rfl ?_
      refine tl_iload_n rfl rfl ?_
      show jT _ _ 27 _ _ _ _
      refine tl_isub rfl ?_
      refine tl_iret rfl ?_
      -- leaf 0 at 28
      have e : zrn V k = q := fst_uniq (Nat.zero_le _) (by omega) (fun i _ hi => i1 i hi) (decide_eq_false (by omega))
      rw [e] at hP
      rw [show (k : Int) + (q : Int) - (k : Int) = (q : Int) by omega]
      exact hP
    · show jT _ _ 10 _ _ _ _
      have vb := hV.gd (i := k + q) (by omega)
      have vb1 := vb.1
      have vb2 := vb.2
      refine tl_aload_n rfl rfl ?_
      refine tl_getr (c := 12) (k9 := 28) (b := 406) rfl rfl rfl rfl ?_
      refine tl_iload_n rfl rfl ?_
      refine tl_iald (n := 64) rfl rfl rfl (by omega) (by omega) ?_
      rw [show ((k : Int) + (q : Int)).toNat = k + q by omega, kV.2 (k + q) (by omega)]
      refine tl_if_ne (tgt := 25) rfl rfl ⟨by omega, by omega⟩ (fun c2 => ?_) (fun c2 => ?_)
      · skip
        show jT _ _ 25 _ _ _ _
        refine tl_iload_n rfl rfl ?_
        refine tl_iload_n rfl rfl ?_
        refine tl_isub rfl ?_
        refine tl_iret rfl ?_
        -- leaf 1 at 28
        have e : zrn V k = q := fst_uniq (Nat.zero_le _) (by omega) (fun i _ hi => i1 i hi) (decide_eq_false (by omega))
        rw [e] at hP
        rw [show (k : Int) + (q : Int) - (k : Int) = (q : Int) by omega]
        exact hP
      · show jT _ _ 19 _ _ _ _
        refine tl_iinc rfl rfl rfl ?_
        refine tl_goto (tgt := 2) rfl rfl ?_
        show jT _ _ 2 _ _ _ _
        -- leaf 2 at 2
        refine jT.loc ?_ (ih (q + 1) (by omega) ⟨by omega, fun i hi => by by_cases c : i = q; (subst c; exact decide_eq_true (by omega)); exact i1 i (by omega)⟩)
        rw [show (k : Int) + ((q + 1 : Nat) : Int) = (k : Int) + (q : Int) + 1 by omega]
        rfl
set_option maxRecDepth 20000 in
set_option maxHeartbeats 1000000 in
theorem r_zeros (l : Launch) (h : jH) (V : List Int) (kV : BL h V) (v64 : V.length ≤ 64) (hV : LB V) (k : Nat) (hk9 : k ≤ V.length) : cI l 265 [.ref 388, .int (jI (k : Int))] h (fun z h' => h' = h ∧ z = (zrn V k : Int)) := by
  refine cI.of rfl rfl ?_
  refine tl_iload_n rfl rfl ?_
  refine tl_istore_n rfl (Nat.le_of_ble_eq_true rfl) rfl ?_
  show jT _ _ 2 _ _ _ _
  -- leaf 0 at 2
  refine jT.loc ?_ (r_zeros_lp l h V kV v64 hV k (by omega) _ ⟨_, rfl, rfl, rfl⟩ _ 0 (Nat.lt_succ_self _) ⟨by omega, fun i hi => by omega⟩)
  rw [show (k : Int) + ((0 : Nat) : Int) = (k : Int) by omega]
  rfl
set_option maxRecDepth 20000 in
set_option maxHeartbeats 1000000 in
theorem r_others_lp (l : Launch) (h : jH) (V : List Int) (kV : BL h V) (v64 : V.length ≤ 64) (hV : LB V) (k : Nat) (hk9 : k ≤ V.length) (P : Option Value → jH → Prop) (hP : P (some (.int (jI (orn V k : Int)))) h) : ∀ (m : Nat) (q : Nat), V.length - q < m → (k + q ≤ V.length ∧ ∀ i, i < q → orP V k i = true) → jT l 266 2 [some (.ref 388), some (.int (jI ((k : Int)))), some (.int (jI ((k : Int) + (q : Int))))] [] h P := by
  intro m
  induction m with
  | zero => intro q hk; omega
  | succ m ih =>
    intro q hk hi
    obtain ⟨i0, i1⟩ := hi
    refine tl_iload_n rfl rfl ?_
    refine tl_aload_n rfl rfl ?_
    refine tl_geti (c := 12) (k9 := 29) rfl rfl rfl ?_
    rw [kV.1]
    refine tl_icmp_ge (tgt := 25) rfl rfl ⟨by omega, by omega⟩ ⟨by omega, by omega⟩ (fun c1 => ?_) (fun c1 => ?_)
    · skip
      refine tl_iload_n rfl rfl ?_
      refine tl_iload_n rfl rfl ?_
      show jT _ _ 27 _ _ _ _
      refine tl_isub rfl ?_
      refine tl_iret rfl ?_
      -- leaf 0 at 28
      have e : orn V k = q := fst_uniq (Nat.zero_le _) (by omega) (fun i _ hi => i1 i hi) (decide_eq_false (by omega))
      rw [e] at hP
      rw [show (k : Int) + (q : Int) - (k : Int) = (q : Int) by omega]
      exact hP
    · show jT _ _ 10 _ _ _ _
      have vb := hV.gd (i := k + q) (by omega)
      have vb1 := vb.1
      have vb2 := vb.2
      refine tl_aload_n rfl rfl ?_
      refine tl_getr (c := 12) (k9 := 28) (b := 406) rfl rfl rfl rfl ?_
      refine tl_iload_n rfl rfl ?_
      refine tl_iald (n := 64) rfl rfl rfl (by omega) (by omega) ?_
      rw [show ((k : Int) + (q : Int)).toNat = k + q by omega, kV.2 (k + q) (by omega)]
      refine tl_if_eq (tgt := 25) rfl rfl ⟨by omega, by omega⟩ (fun c2 => ?_) (fun c2 => ?_)
      · skip
        show jT _ _ 25 _ _ _ _
        refine tl_iload_n rfl rfl ?_
        refine tl_iload_n rfl rfl ?_
        refine tl_isub rfl ?_
        refine tl_iret rfl ?_
        -- leaf 1 at 28
        have e : orn V k = q := fst_uniq (Nat.zero_le _) (by omega) (fun i _ hi => i1 i hi) (decide_eq_false (by omega))
        rw [e] at hP
        rw [show (k : Int) + (q : Int) - (k : Int) = (q : Int) by omega]
        exact hP
      · show jT _ _ 19 _ _ _ _
        refine tl_iinc rfl rfl rfl ?_
        refine tl_goto (tgt := 2) rfl rfl ?_
        show jT _ _ 2 _ _ _ _
        -- leaf 2 at 2
        refine jT.loc ?_ (ih (q + 1) (by omega) ⟨by omega, fun i hi => by by_cases c : i = q; (subst c; exact decide_eq_true (by omega)); exact i1 i (by omega)⟩)
        rw [show (k : Int) + ((q + 1 : Nat) : Int) = (k : Int) + (q : Int) + 1 by omega]
        rfl
set_option maxRecDepth 20000 in
set_option maxHeartbeats 1000000 in
theorem r_others (l : Launch) (h : jH) (V : List Int) (kV : BL h V) (v64 : V.length ≤ 64) (hV : LB V) (k : Nat) (hk9 : k ≤ V.length) : cI l 266 [.ref 388, .int (jI (k : Int))] h (fun z h' => h' = h ∧ z = (orn V k : Int)) := by
  refine cI.of rfl rfl ?_
  refine tl_iload_n rfl rfl ?_
  refine tl_istore_n rfl (Nat.le_of_ble_eq_true rfl) rfl ?_
  show jT _ _ 2 _ _ _ _
  -- leaf 0 at 2
  refine jT.loc ?_ (r_others_lp l h V kV v64 hV k (by omega) _ ⟨_, rfl, rfl, rfl⟩ _ 0 (Nat.lt_succ_self _) ⟨by omega, fun i hi => by omega⟩)
  rw [show (k : Int) + ((0 : Nat) : Int) = (k : Int) by omega]
  rfl
set_option maxRecDepth 20000 in
set_option maxHeartbeats 1000000 in
theorem r_same_lp (l : Launch) (h : jH) (V : List Int) (kV : BL h V) (v64 : V.length ≤ 64) (hV : LB V) (k : Nat) (hk9 : k ≤ V.length) (hk8 : k < V.length) (P : Option Value → jH → Prop) (hP : P (some (.int (jI (srn V k : Int)))) h) : ∀ (m : Nat) (q : Nat), V.length - q < m → (k + q ≤ V.length ∧ ∀ i, i < q → srP V k i = true) → jT l 267 2 [some (.ref 388), some (.int (jI ((k : Int)))), some (.int (jI ((k : Int) + (q : Int))))] [] h P := by
  intro m
  induction m with
  | zero => intro q hk; omega
  | succ m ih =>
    intro q hk hi
    obtain ⟨i0, i1⟩ := hi
    refine tl_iload_n rfl rfl ?_
    refine tl_aload_n rfl rfl ?_
    refine tl_geti (c := 12) (k9 := 29) rfl rfl rfl ?_
    rw [kV.1]
    refine tl_icmp_ge (tgt := 31) rfl rfl ⟨by omega, by omega⟩ ⟨by omega, by omega⟩ (fun c1 => ?_) (fun c1 => ?_)
    · skip
      refine tl_iload_n rfl rfl ?_
      refine tl_iload_n rfl rfl ?_
      show jT _ _ 33 _ _ _ _
      refine tl_isub rfl ?_
      refine tl_iret rfl ?_
      -- leaf 0 at 34
      have e : srn V k = q := fst_uniq (Nat.zero_le _) (by omega) (fun i _ hi => i1 i hi) (decide_eq_false (by omega))
      rw [e] at hP
      rw [show (k : Int) + (q : Int) - (k : Int) = (q : Int) by omega]
      exact hP
    · show jT _ _ 10 _ _ _ _
      have vb := hV.gd (i := k + q) (by omega)
      have vb1 := vb.1
      have vb2 := vb.2
      refine tl_aload_n rfl rfl ?_
      refine tl_getr (c := 12) (k9 := 28) (b := 406) rfl rfl rfl rfl ?_
      refine tl_iload_n rfl rfl ?_
      refine tl_iald (n := 64) rfl rfl rfl (by omega) (by omega) ?_
      rw [show ((k : Int) + (q : Int)).toNat = k + q by omega, kV.2 (k + q) (by omega)]
      refine tl_aload_n rfl rfl ?_
      show jT _ _ 17 _ _ _ _
      refine tl_getr (c := 12) (k9 := 28) (b := 406) rfl rfl rfl rfl ?_
      refine tl_iload_n rfl rfl ?_
      refine tl_iald (n := 64) rfl rfl rfl (by omega) (by omega) ?_
      rw [Int.toNat_natCast, kV.2 k hk8]
      have vd := hV.gd hk8
      have vd1 := vd.1
      have vd2 := vd.2
      refine tl_icmp_ne (tgt := 31) rfl rfl ⟨by omega, by omega⟩ ⟨by omega, by omega⟩ (fun c2 => ?_) (fun c2 => ?_)
      · skip
        refine tl_iload_n rfl rfl ?_
        refine tl_iload_n rfl rfl ?_
        refine tl_isub rfl ?_
        show jT _ _ 34 _ _ _ _
        refine tl_iret rfl ?_
        -- leaf 1 at 34
        have e : srn V k = q := fst_uniq (Nat.zero_le _) (by omega) (fun i _ hi => i1 i hi) (decide_eq_false (by omega))
        rw [e] at hP
        rw [show (k : Int) + (q : Int) - (k : Int) = (q : Int) by omega]
        exact hP
      · show jT _ _ 25 _ _ _ _
        refine tl_iinc rfl rfl rfl ?_
        refine tl_goto (tgt := 2) rfl rfl ?_
        show jT _ _ 2 _ _ _ _
        -- leaf 2 at 2
        refine jT.loc ?_ (ih (q + 1) (by omega) ⟨by omega, fun i hi => by by_cases c : i = q; (subst c; exact decide_eq_true (by omega)); exact i1 i (by omega)⟩)
        rw [show (k : Int) + ((q + 1 : Nat) : Int) = (k : Int) + (q : Int) + 1 by omega]
        rfl
set_option maxRecDepth 20000 in
set_option maxHeartbeats 1000000 in
theorem r_same (l : Launch) (h : jH) (V : List Int) (kV : BL h V) (v64 : V.length ≤ 64) (hV : LB V) (k : Nat) (hk9 : k < V.length) : cI l 267 [.ref 388, .int (jI (k : Int))] h (fun z h' => h' = h ∧ z = (srn V k : Int)) := by
  refine cI.of rfl rfl ?_
  refine tl_iload_n rfl rfl ?_
  refine tl_istore_n rfl (Nat.le_of_ble_eq_true rfl) rfl ?_
  show jT _ _ 2 _ _ _ _
  -- leaf 0 at 2
  refine jT.loc ?_ (r_same_lp l h V kV v64 hV k (by omega) hk9 _ ⟨_, rfl, rfl, rfl⟩ _ 0 (Nat.lt_succ_self _) ⟨by omega, fun i hi => by omega⟩)
  rw [show (k : Int) + ((0 : Nat) : Int) = (k : Int) by omega]
  rfl
set_option maxRecDepth 20000 in
set_option maxHeartbeats 1000000 in
theorem r_ar_C0 (l : Launch) (h : jH) (V : List Int) (kV : BL h V) (v64 : V.length ≤ 64) (hV : LB V) (k c : Nat) (L : List Int) (hkw : k + c ≤ V.length) (hL : L.length + c < 400) (P : Option Value → jH → Prop) (hx : ∀ mem y4, (ML mem (L ++ slc V k c) ∧ FM h mem) → jT l 268 130 [some (.ref 388), some (.int (jI (0))), some (.int (jI ((k : Int)))), some (.int (jI ((c : Int)))), y4] [] mem P) : ∀ (m : Nat) (q : Nat) (mem : jH), c - q < m → (q ≤ c ∧ ML mem (L ++ slc V k q) ∧ FM h mem) → jT l 268 100 [some (.ref 388), some (.int (jI (0))), some (.int (jI ((k : Int)))), some (.int (jI ((c : Int)))), some (.int (jI ((k : Int) + (q : Int))))] [] mem P := by
  intro m
  induction m with
  | zero => intro q mem hk; omega
  | succ m ih =>
    intro q mem hk hi
    obtain ⟨i0, i1, fr⟩ := hi
    have kvm := kV.fm fr
    refine tl_iload rfl rfl ?_
    refine tl_iload_n rfl rfl ?_
    refine tl_iload_n rfl rfl ?_
    refine tl_iadd rfl ?_
    refine tl_icmp_ge (tgt := 130) rfl rfl ⟨by omega, by omega⟩ ⟨by omega, by omega⟩ (fun c1 => ?_) (fun c1 => ?_)
    · skip
      show jT _ _ 130 _ _ _ _
      -- leaf 0 at 130
      first
        | (exfalso; omega)
        | (have e : q = c := by omega
           rw [e] at i1
           exact hx mem _ ⟨i1, fr⟩)
    · show jT _ _ 108 _ _ _ _
      refine tl_iload_n rfl rfl ?_
      show jT _ _ 109 _ _ _ _
      refine tl_iconst rfl ?_
      refine tl_icmp_ge (tgt := 130) rfl rfl ⟨by omega, by omega⟩ ⟨by omega, by omega⟩ (fun c2 => ?_) (fun c2 => ?_)
      · skip
        exfalso; omega
      · show jT _ _ 113 _ _ _ _
        refine tl_aload_n rfl rfl ?_
        refine tl_aload_n rfl rfl ?_
        refine tl_getr (c := 12) (k9 := 28) (b := 406) rfl rfl rfl rfl ?_
        refine tl_iload rfl rfl ?_
        refine tl_iald (n := 64) rfl rfl rfl (by omega) (by omega) ?_
        rw [show ((k : Int) + (q : Int)).toNat = k + q by omega, kvm.2 (k + q) (by omega)]
        show jT _ _ 121 _ _ _ _
        refine tl_v1v (c9 := 12) (r_add l mem _ i1 (by rw [List.length_append, slc_len]; omega) (V.getD (k + q) 0)) rfl rfl rfl rfl rfl (Nat.le_of_ble_eq_true rfl) (fun h2 p2 => ?_)
        obtain ⟨k2, f2⟩ := p2
        refine tl_iinc rfl rfl rfl ?_
        refine tl_goto (tgt := 100) rfl rfl ?_
        show jT _ _ 100 _ _ _ _
        -- leaf 1 at 100
        refine jT.loc ?_ (ih (q + 1) h2 (by omega) ⟨by omega, by rw [slc, ← List.append_assoc]; exact k2, fr.trans f2⟩)
        rw [show (k : Int) + ((q + 1 : Nat) : Int) = (k : Int) + (q : Int) + 1 by omega]
        rfl
set_option maxRecDepth 20000 in
set_option maxHeartbeats 1000000 in
theorem r_ar_C1 (l : Launch) (h : jH) (V : List Int) (kV : BL h V) (v64 : V.length ≤ 64) (hV : LB V) (k c : Nat) (L : List Int) (hkw : k + c ≤ V.length) (hL : L.length + c < 400) (P : Option Value → jH → Prop) (hx : ∀ mem y4, (ML mem (L ++ slc V k c) ∧ FM h mem) → jT l 268 130 [some (.ref 388), some (.int (jI (1))), some (.int (jI ((k : Int)))), some (.int (jI ((c : Int)))), y4] [] mem P) : ∀ (m : Nat) (q : Nat) (mem : jH), c - q < m → (q ≤ c ∧ ML mem (L ++ slc V k q) ∧ FM h mem) → jT l 268 100 [some (.ref 388), some (.int (jI (1))), some (.int (jI ((k : Int)))), some (.int (jI ((c : Int)))), some (.int (jI ((k : Int) + (q : Int))))] [] mem P := by
  intro m
  induction m with
  | zero => intro q mem hk; omega
  | succ m ih =>
    intro q mem hk hi
    obtain ⟨i0, i1, fr⟩ := hi
    have kvm := kV.fm fr
    refine tl_iload rfl rfl ?_
    refine tl_iload_n rfl rfl ?_
    refine tl_iload_n rfl rfl ?_
    refine tl_iadd rfl ?_
    refine tl_icmp_ge (tgt := 130) rfl rfl ⟨by omega, by omega⟩ ⟨by omega, by omega⟩ (fun c1 => ?_) (fun c1 => ?_)
    · skip
      show jT _ _ 130 _ _ _ _
      -- leaf 0 at 130
      first
        | (exfalso; omega)
        | (have e : q = c := by omega
           rw [e] at i1
           exact hx mem _ ⟨i1, fr⟩)
    · show jT _ _ 108 _ _ _ _
      refine tl_iload_n rfl rfl ?_
      show jT _ _ 109 _ _ _ _
      refine tl_iconst rfl ?_
      refine tl_icmp_ge (tgt := 130) rfl rfl ⟨by omega, by omega⟩ ⟨by omega, by omega⟩ (fun c2 => ?_) (fun c2 => ?_)
      · skip
        exfalso; omega
      · show jT _ _ 113 _ _ _ _
        refine tl_aload_n rfl rfl ?_
        refine tl_aload_n rfl rfl ?_
        refine tl_getr (c := 12) (k9 := 28) (b := 406) rfl rfl rfl rfl ?_
        refine tl_iload rfl rfl ?_
        refine tl_iald (n := 64) rfl rfl rfl (by omega) (by omega) ?_
        rw [show ((k : Int) + (q : Int)).toNat = k + q by omega, kvm.2 (k + q) (by omega)]
        show jT _ _ 121 _ _ _ _
        refine tl_v1v (c9 := 12) (r_add l mem _ i1 (by rw [List.length_append, slc_len]; omega) (V.getD (k + q) 0)) rfl rfl rfl rfl rfl (Nat.le_of_ble_eq_true rfl) (fun h2 p2 => ?_)
        obtain ⟨k2, f2⟩ := p2
        refine tl_iinc rfl rfl rfl ?_
        refine tl_goto (tgt := 100) rfl rfl ?_
        show jT _ _ 100 _ _ _ _
        -- leaf 1 at 100
        refine jT.loc ?_ (ih (q + 1) h2 (by omega) ⟨by omega, by rw [slc, ← List.append_assoc]; exact k2, fr.trans f2⟩)
        rw [show (k : Int) + ((q + 1 : Nat) : Int) = (k : Int) + (q : Int) + 1 by omega]
        rfl
set_option maxRecDepth 20000 in
set_option maxHeartbeats 1000000 in
theorem r_way0 (l : Launch) (h : jH) (V : List Int) (kV : BL h V) (v64 : V.length ≤ 64) (hV : LB V) (L : List Int) (kL : ML h L) (hL : L.length + 3 * V.length ≤ 396) : cV l 268 [.ref 388, .int (jI 0)] h (fun h' => ML h' (L ++ pkW V 0) ∧ FM h h') := by
  refine cV.of rfl rfl ?_
  refine tl_aload_n rfl rfl ?_
  refine tl_iload_n rfl rfl ?_
  refine tl_v1v (c9 := 12) (r_add l h L kL (by omega) 0) rfl rfl rfl rfl rfl (Nat.le_of_ble_eq_true rfl) (fun h1 p1 => ?_)
  obtain ⟨k1, f1⟩ := p1
  have kv1 := kV.fm f1
  refine tl_iconst rfl ?_
  refine tl_istore_n rfl (Nat.le_of_ble_eq_true rfl) rfl ?_
  show jT _ _ 7 _ _ _ _
  -- leaf 0 at 7
  refine tl_iload_n rfl rfl ?_
  refine tl_aload_n rfl rfl ?_
  refine tl_geti (c := 12) (k9 := 29) rfl rfl rfl ?_
  rw [kv1.1]
  refine tl_icmp_ge (tgt := 137) rfl rfl ⟨by omega, by omega⟩ ⟨by omega, by omega⟩ (fun c1 => ?_) (fun c1 => ?_)
  · skip
    refine tl_ret rfl ?_
    -- leaf 0 at 137
    have e0 : V.length = 0 := by omega
    refine ⟨rfl, ?_, f1⟩
    rw [pkW, if_pos rfl, pk0, e0, slc, List.append_nil]; exact k1
  · show jT _ _ 15 _ _ _ _
    refine tl_iload_n rfl rfl ?_
    show jT _ _ 16 _ _ _ _
    refine tl_if_ne (tgt := 26) rfl rfl ⟨by omega, by omega⟩ (fun c2 => ?_) (fun c2 => ?_)
    · skip
      exfalso; omega
    · show jT _ _ 19 _ _ _ _
      refine tl_aload_n rfl rfl ?_
      refine tl_geti (c := 12) (k9 := 29) rfl rfl rfl ?_
      rw [kv1.1]
      refine tl_goto (tgt := 44) rfl rfl ?_
      refine tl_istore_n rfl (Nat.le_of_ble_eq_true rfl) rfl ?_
      refine tl_iload_n rfl rfl ?_
      refine tl_if_le (tgt := 54) rfl rfl ⟨by omega, by omega⟩ (fun c3 => ?_) (fun c3 => ?_)
      · skip
        show jT _ _ 54 _ _ _ _
        refine tl_iload_n rfl rfl ?_
        refine tl_iconst rfl ?_
        refine tl_icmp_ne (tgt := 69) rfl rfl ⟨by omega, by omega⟩ ⟨by omega, by omega⟩ (fun c4 => ?_) (fun c4 => ?_)
        · skip
          refine tl_iload_n rfl rfl ?_
          refine tl_iconst rfl ?_
          refine tl_icmp_ne (tgt := 97) rfl rfl ⟨by omega, by omega⟩ ⟨by omega, by omega⟩ (fun c5 => ?_) (fun c5 => ?_)
          · skip
            refine tl_iload_n rfl rfl ?_
            show jT _ _ 98 _ _ _ _
            refine tl_istore rfl (Nat.le_of_ble_eq_true rfl) rfl ?_
            show jT _ _ 100 _ _ _ _
            -- leaf 1 at 100
            refine jT.loc ?_ (r_ar_C0 l h1 V kv1 v64 hV 0 V.length (L ++ [0]) (by omega) (by rw [List.length_append]; show L.length + 1 + V.length < 400; omega) _ (fun mem2 y42 hj => ?_) _ 0 h1 (Nat.lt_succ_self _) ⟨by omega, by rw [slc, List.append_nil]; exact k1, FM.rfl'⟩)
            · rfl
            · have kv2 := kv1.fm hj.2
              refine tl_iload_n rfl rfl ?_
              refine tl_iload_n rfl rfl ?_
              refine tl_iadd rfl ?_
              refine tl_istore_n rfl (Nat.le_of_ble_eq_true rfl) rfl ?_
              refine tl_goto (tgt := 7) rfl rfl ?_
              refine tl_iload_n rfl rfl ?_
              show jT _ _ 8 _ _ _ _
              refine tl_aload_n rfl rfl ?_
              refine tl_geti (c := 12) (k9 := 29) rfl rfl rfl ?_
              rw [kv2.1]
              refine tl_icmp_ge (tgt := 137) rfl rfl ⟨by omega, by omega⟩ ⟨by omega, by omega⟩ (fun c1 => ?_) (fun c1 => ?_)
              · skip
                refine tl_ret rfl ?_
                -- leaf 0 at 137
                refine ⟨rfl, ?_, f1.trans hj.2⟩
                rw [pkW, if_pos rfl, pk0, ← List.append_assoc]; exact hj.1
              · show jT _ _ 15 _ _ _ _
                exfalso; omega
          · show jT _ _ 74 _ _ _ _
            exfalso; omega
        · show jT _ _ 59 _ _ _ _
          exfalso; omega
      · show jT _ _ 49 _ _ _ _
        exfalso; omega
set_option maxRecDepth 20000 in
set_option maxHeartbeats 1000000 in
theorem r_w1_lp (l : Launch) (h : jH) (V : List Int) (kV : BL h V) (v64 : V.length ≤ 64) (hV : LB V) (L0 E : List Int) (hL0 : L0.length + 3 * V.length ≤ 396) (P : Option Value → jH → Prop) (hP : ∀ mem, (ML mem E ∧ FM h mem) → P none mem) : ∀ (m k : Nat) (L : List Int) (fu : Nat) (mem : jH) (y3 y4 : Option Value), V.length - k < m → (k ≤ V.length ∧ L.length ≤ L0.length + 1 + 3 * k ∧ ML mem L ∧ FM h mem ∧ V.length - k ≤ fu ∧ zrA V fu k L = E) → jT l 268 7 [some (.ref 388), some (.int (jI (1))), some (.int (jI ((k : Int)))), y3, y4] [] mem P := by
  intro m
  induction m with
  | zero => intro k L fu mem y3 y4 hk; omega
  | succ m ih =>
    intro k L fu mem y3 y4 hk hi
    obtain ⟨i0, i2, i3, fr, ifu, hE⟩ := hi
    have kvm := kV.fm fr
    refine tl_iload_n rfl rfl ?_
    refine tl_aload_n rfl rfl ?_
    refine tl_geti (c := 12) (k9 := 29) rfl rfl rfl ?_
    rw [kvm.1]
    refine tl_icmp_ge (tgt := 137) rfl rfl ⟨by omega, by omega⟩ ⟨by omega, by omega⟩ (fun c1 => ?_) (fun c1 => ?_)
    · skip
      refine tl_ret rfl ?_
      -- leaf 0 at 137
      rw [zrA_end (by omega)] at hE
      subst hE
      exact hP mem ⟨i3, fr⟩
    · show jT _ _ 15 _ _ _ _
      have ck : k < V.length := by omega
      obtain ⟨q1, _, _⟩ := zrn_s v64 (show k ≤ V.length by omega)
      obtain ⟨q2, _, _⟩ := orn_s v64 q1
      have q3 := zrS_b (L := L) v64 ck hV
      have q4 : k + (zrn V k) < V.length → 1 ≤ (orn V (k + zrn V k)) := fun z => orn_1 v64 z
      have l1 := (nm_len (v := ((zrn V k) : Int))).2.2 (by omega)
      have l2 := (nm_len (v := ((orn V (k + zrn V k)) : Int))).2.2 (by omega)
      refine tl_iload_n rfl rfl ?_
      show jT _ _ 16 _ _ _ _
      refine tl_if_ne (tgt := 26) rfl rfl ⟨by omega, by omega⟩ (fun c2 => ?_) (fun c2 => ?_)
      · skip
        refine tl_iload_n rfl rfl ?_
        refine tl_iconst rfl ?_
        refine tl_icmp_ne (tgt := 39) rfl rfl ⟨by omega, by omega⟩ ⟨by omega, by omega⟩ (fun c3 => ?_) (fun c3 => ?_)
        · skip
          exfalso; omega
        · show jT _ _ 31 _ _ _ _
          refine tl_aload_n rfl rfl ?_
          refine tl_iload_n rfl rfl ?_
          refine tl_v1i (c9 := 12) (r_zeros l mem V kvm v64 hV k (by omega)) rfl rfl rfl rfl rfl (Nat.le_of_ble_eq_true rfl) (fun z1 h1 p1 => ?_)
          obtain ⟨q1, rfl⟩ := p1
          have q1 := q1.symm
          subst q1
          show jT _ _ 36 _ _ _ _
          refine tl_goto (tgt := 44) rfl rfl ?_
          refine tl_istore_n rfl (Nat.le_of_ble_eq_true rfl) rfl ?_
          refine tl_iload_n rfl rfl ?_
          refine tl_if_le (tgt := 54) rfl rfl ⟨by omega, by omega⟩ (fun c4 => ?_) (fun c4 => ?_)
          · skip
            exfalso; omega
          · show jT _ _ 49 _ _ _ _
            refine tl_aload_n rfl rfl ?_
            refine tl_iload_n rfl rfl ?_
            refine tl_v1v (c9 := 12) (r_addNum l mem L i3 (by omega) ((zrn V k) : Int) (by omega) (by omega)) rfl rfl rfl rfl rfl (Nat.le_of_ble_eq_true rfl) (fun h1 p1 => ?_)
            obtain ⟨k1, f1⟩ := p1
            have kv1 := kvm.fm f1
            show jT _ _ 54 _ _ _ _
            refine tl_iload_n rfl rfl ?_
            refine tl_iconst rfl ?_
            refine tl_icmp_ne (tgt := 69) rfl rfl ⟨by omega, by omega⟩ ⟨by omega, by omega⟩ (fun c5 => ?_) (fun c5 => ?_)
            · skip
              refine tl_iload_n rfl rfl ?_
              refine tl_iconst rfl ?_
              refine tl_icmp_ne (tgt := 97) rfl rfl ⟨by omega, by omega⟩ ⟨by omega, by omega⟩ (fun c6 => ?_) (fun c6 => ?_)
              · skip
                exfalso; omega
              · show jT _ _ 74 _ _ _ _
                refine tl_iload_n rfl rfl ?_
                show jT _ _ 75 _ _ _ _
                refine tl_iload_n rfl rfl ?_
                refine tl_iadd rfl ?_
                rw [show (k : Int) + ((zrn V k) : Int) = ((k + (zrn V k) : Nat) : Int) by omega]
                refine tl_istore_n rfl (Nat.le_of_ble_eq_true rfl) rfl ?_
                refine tl_aload_n rfl rfl ?_
                refine tl_iload_n rfl rfl ?_
                refine tl_v1i (c9 := 12) (r_others l h1 V kv1 v64 hV (k + (zrn V k)) (by omega)) rfl rfl rfl rfl rfl (Nat.le_of_ble_eq_true rfl) (fun z2 h2 p2 => ?_)
                obtain ⟨q2, rfl⟩ := p2
                have q2 := q2.symm
                subst q2
                refine tl_istore_n rfl (Nat.le_of_ble_eq_true rfl) rfl ?_
                show jT _ _ 84 _ _ _ _
                refine tl_iload_n rfl rfl ?_
                refine tl_aload_n rfl rfl ?_
                refine tl_geti (c := 12) (k9 := 29) rfl rfl rfl ?_
                rw [kv1.1]
                refine tl_icmp_ge (tgt := 97) rfl rfl ⟨by omega, by omega⟩ ⟨by omega, by omega⟩ (fun c7 => ?_) (fun c7 => ?_)
                · skip
                  refine tl_iload_n rfl rfl ?_
                  refine tl_istore rfl (Nat.le_of_ble_eq_true rfl) rfl ?_
                  show jT _ _ 100 _ _ _ _
                  -- leaf 1 at 100
                  have o0 : (orn V (k + zrn V k)) = 0 := by omega
                  refine jT.loc ?_ (r_ar_C1 l h1 V kv1 v64 hV (k + (zrn V k)) (orn V (k + zrn V k)) (L ++ nm (zrn V k : Int)) (by omega) (by rw [List.length_append, l1]; omega) _ (fun mem2 y42 hj => ?_) _ 0 h1 (Nat.lt_succ_self _) ⟨by omega, by rw [slc, List.append_nil]; exact k1, FM.rfl'⟩)
                  · rw [show ((k + (zrn V k) : Nat) : Int) + ((0 : Nat) : Int) = ((k + (zrn V k) : Nat) : Int) by omega]
                    rfl
                  · have eS : zrS V k L = (L ++ nm (zrn V k : Int)) ++ slc V (k + (zrn V k)) (orn V (k + zrn V k)) := by rw [zrS, if_neg (by omega), List.append_nil]
                    rw [← eS] at hj
                    refine tl_iload_n rfl rfl ?_
                    refine tl_iload_n rfl rfl ?_
                    refine tl_iadd rfl ?_
                    refine tl_istore_n rfl (Nat.le_of_ble_eq_true rfl) rfl ?_
                    refine tl_goto (tgt := 7) rfl rfl ?_
                    show jT _ _ 7 _ _ _ _
                    -- leaf 0 at 7
                    refine jT.loc ?_ (ih (k + (zrn V k) + (orn V (k + zrn V k))) (zrS V k L) (fu - 1) mem2 (some (.int (jI (((orn V (k + zrn V k)) : Int))))) y42 (by omega) ⟨by omega, by omega, hj.1, fr.trans (f1.trans hj.2), by omega, ?_⟩)
                    · rw [show ((k + (zrn V k) + (orn V (k + zrn V k)) : Nat) : Int) = ((k + (zrn V k) : Nat) : Int) + ((orn V (k + zrn V k)) : Int) by omega]
                      rfl
                    · rw [← hE, show fu = fu - 1 + 1 by omega, zrA, if_pos ck]; rfl
                · show jT _ _ 92 _ _ _ _
                  refine tl_aload_n rfl rfl ?_
                  show jT _ _ 93 _ _ _ _
                  refine tl_iload_n rfl rfl ?_
                  refine tl_v1v (c9 := 12) (r_addNum l h1 (L ++ nm (zrn V k : Int)) k1 (by rw [List.length_append, l1]; omega) ((orn V (k + zrn V k)) : Int) (by omega) (by omega)) rfl rfl rfl rfl rfl (Nat.le_of_ble_eq_true rfl) (fun h5 p5 => ?_)
                  obtain ⟨k5, f5⟩ := p5
                  have kv5 := kv1.fm f5
                  refine tl_iload_n rfl rfl ?_
                  refine tl_istore rfl (Nat.le_of_ble_eq_true rfl) rfl ?_
                  show jT _ _ 100 _ _ _ _
                  -- leaf 2 at 100
                  refine jT.loc ?_ (r_ar_C1 l h5 V kv5 v64 hV (k + (zrn V k)) (orn V (k + zrn V k)) ((L ++ nm (zrn V k : Int)) ++ nm ((orn V (k + zrn V k)) : Int)) (by omega) (by rw [List.length_append, List.length_append, l1, l2]; omega) _ (fun mem2 y42 hj => ?_) _ 0 h5 (Nat.lt_succ_self _) ⟨by omega, by rw [slc, List.append_nil]; exact k5, FM.rfl'⟩)
                  · rw [show ((k + (zrn V k) : Nat) : Int) + ((0 : Nat) : Int) = ((k + (zrn V k) : Nat) : Int) by omega]
                    rfl
                  · have eS : zrS V k L = (L ++ nm (zrn V k : Int)) ++ nm ((orn V (k + zrn V k)) : Int) ++ slc V (k + (zrn V k)) (orn V (k + zrn V k)) := by rw [zrS, if_pos (by have := q4 (by omega); omega)]
                    rw [← eS] at hj
                    refine tl_iload_n rfl rfl ?_
                    refine tl_iload_n rfl rfl ?_
                    refine tl_iadd rfl ?_
                    refine tl_istore_n rfl (Nat.le_of_ble_eq_true rfl) rfl ?_
                    refine tl_goto (tgt := 7) rfl rfl ?_
                    show jT _ _ 7 _ _ _ _
                    -- leaf 0 at 7
                    refine jT.loc ?_ (ih (k + (zrn V k) + (orn V (k + zrn V k))) (zrS V k L) (fu - 1) mem2 (some (.int (jI (((orn V (k + zrn V k)) : Int))))) y42 (by omega) ⟨by omega, by omega, hj.1, fr.trans (f1.trans (f5.trans hj.2)), by omega, ?_⟩)
                    · rw [show ((k + (zrn V k) + (orn V (k + zrn V k)) : Nat) : Int) = ((k + (zrn V k) : Nat) : Int) + ((orn V (k + zrn V k)) : Int) by omega]
                      rfl
                    · rw [← hE, show fu = fu - 1 + 1 by omega, zrA, if_pos ck]; rfl
            · show jT _ _ 59 _ _ _ _
              exfalso; omega
      · show jT _ _ 19 _ _ _ _
        exfalso; omega
set_option maxRecDepth 20000 in
set_option maxHeartbeats 1000000 in
theorem r_way1 (l : Launch) (h : jH) (V : List Int) (kV : BL h V) (v64 : V.length ≤ 64) (hV : LB V) (L : List Int) (kL : ML h L) (hL : L.length + 3 * V.length ≤ 396) : cV l 268 [.ref 388, .int (jI 1)] h (fun h' => ML h' (L ++ pkW V 1) ∧ FM h h') := by
  refine cV.of rfl rfl ?_
  refine tl_aload_n rfl rfl ?_
  refine tl_iload_n rfl rfl ?_
  refine tl_v1v (c9 := 12) (r_add l h L kL (by omega) 1) rfl rfl rfl rfl rfl (Nat.le_of_ble_eq_true rfl) (fun h1 p1 => ?_)
  obtain ⟨k1, f1⟩ := p1
  have kv1 := kV.fm f1
  refine tl_iconst rfl ?_
  refine tl_istore_n rfl (Nat.le_of_ble_eq_true rfl) rfl ?_
  show jT _ _ 7 _ _ _ _
  -- leaf 0 at 7
  refine r_w1_lp l h1 V kv1 v64 hV L (L ++ pkW V 1) hL _ (fun mem hi => ⟨rfl, hi.1, f1.trans hi.2⟩) _ 0 (L ++ [1]) V.length h1 _ _ (Nat.lt_succ_self _) ⟨by omega, by rw [List.length_append]; show L.length + 1 ≤ _; omega, k1, FM.rfl', by omega, ?_⟩
  rw [zrA_app]; rfl
set_option maxRecDepth 20000 in
set_option maxHeartbeats 1000000 in
theorem r_w2_lp (l : Launch) (h : jH) (V : List Int) (kV : BL h V) (v64 : V.length ≤ 64) (hV : LB V) (L0 E : List Int) (hL0 : L0.length + 3 * V.length ≤ 396) (P : Option Value → jH → Prop) (hP : ∀ mem, (ML mem E ∧ FM h mem) → P none mem) : ∀ (m k : Nat) (L : List Int) (fu : Nat) (mem : jH) (y3 y4 : Option Value), V.length - k < m → (k ≤ V.length ∧ L.length ≤ L0.length + 1 + 3 * k ∧ ML mem L ∧ FM h mem ∧ V.length - k ≤ fu ∧ rnA V fu k L = E) → jT l 268 7 [some (.ref 388), some (.int (jI (2))), some (.int (jI ((k : Int)))), y3, y4] [] mem P := by
  intro m
  induction m with
  | zero => intro k L fu mem y3 y4 hk; omega
  | succ m ih =>
    intro k L fu mem y3 y4 hk hi
    obtain ⟨i0, i2, i3, fr, ifu, hE⟩ := hi
    have kvm := kV.fm fr
    refine tl_iload_n rfl rfl ?_
    refine tl_aload_n rfl rfl ?_
    refine tl_geti (c := 12) (k9 := 29) rfl rfl rfl ?_
    rw [kvm.1]
    refine tl_icmp_ge (tgt := 137) rfl rfl ⟨by omega, by omega⟩ ⟨by omega, by omega⟩ (fun c1 => ?_) (fun c1 => ?_)
    · skip
      refine tl_ret rfl ?_
      -- leaf 0 at 137
      rw [rnA_end (by omega)] at hE
      subst hE
      exact hP mem ⟨i3, fr⟩
    · show jT _ _ 15 _ _ _ _
      have ck : k < V.length := by omega
      have q3 := rnS_b (L := L) v64 ck hV
      have l1 := (nm_len (v := (srn V k : Int))).2.2 (by omega)
      refine tl_iload_n rfl rfl ?_
      show jT _ _ 16 _ _ _ _
      refine tl_if_ne (tgt := 26) rfl rfl ⟨by omega, by omega⟩ (fun c2 => ?_) (fun c2 => ?_)
      · skip
        refine tl_iload_n rfl rfl ?_
        refine tl_iconst rfl ?_
        refine tl_icmp_ne (tgt := 39) rfl rfl ⟨by omega, by omega⟩ ⟨by omega, by omega⟩ (fun c3 => ?_) (fun c3 => ?_)
        · skip
          refine tl_aload_n rfl rfl ?_
          refine tl_iload_n rfl rfl ?_
          refine tl_v1i (c9 := 12) (r_same l mem V kvm v64 hV k (by omega)) rfl rfl rfl rfl rfl (Nat.le_of_ble_eq_true rfl) (fun z1 h1 p1 => ?_)
          obtain ⟨q1, rfl⟩ := p1
          have q1 := q1.symm
          subst q1
          show jT _ _ 44 _ _ _ _
          refine tl_istore_n rfl (Nat.le_of_ble_eq_true rfl) rfl ?_
          refine tl_iload_n rfl rfl ?_
          refine tl_if_le (tgt := 54) rfl rfl ⟨by omega, by omega⟩ (fun c4 => ?_) (fun c4 => ?_)
          · skip
            exfalso; omega
          · show jT _ _ 49 _ _ _ _
            refine tl_aload_n rfl rfl ?_
            refine tl_iload_n rfl rfl ?_
            refine tl_v1v (c9 := 12) (r_addNum l mem L i3 (by omega) (srn V k : Int) (by omega) (by omega)) rfl rfl rfl rfl rfl (Nat.le_of_ble_eq_true rfl) (fun h1 p1 => ?_)
            obtain ⟨k1, f1⟩ := p1
            have kv1 := kvm.fm f1
            refine tl_iload_n rfl rfl ?_
            show jT _ _ 55 _ _ _ _
            refine tl_iconst rfl ?_
            refine tl_icmp_ne (tgt := 69) rfl rfl ⟨by omega, by omega⟩ ⟨by omega, by omega⟩ (fun c5 => ?_) (fun c5 => ?_)
            · skip
              exfalso; omega
            · show jT _ _ 59 _ _ _ _
              refine tl_aload_n rfl rfl ?_
              refine tl_aload_n rfl rfl ?_
              refine tl_getr (c := 12) (k9 := 28) (b := 406) rfl rfl rfl rfl ?_
              refine tl_iload_n rfl rfl ?_
              refine tl_iald (n := 64) rfl rfl rfl (by omega) (by omega) ?_
              rw [Int.toNat_natCast, kv1.2 k ck]
              show jT _ _ 66 _ _ _ _
              refine tl_v1v (c9 := 12) (r_add l h1 _ k1 (by rw [List.length_append, l1]; omega) (V.getD k 0)) rfl rfl rfl rfl rfl (Nat.le_of_ble_eq_true rfl) (fun h5 p5 => ?_)
              obtain ⟨k5, f5⟩ := p5
              refine tl_iload_n rfl rfl ?_
              refine tl_iconst rfl ?_
              refine tl_icmp_ne (tgt := 97) rfl rfl ⟨by omega, by omega⟩ ⟨by omega, by omega⟩ (fun c6 => ?_) (fun c6 => ?_)
              · skip
                refine tl_iload_n rfl rfl ?_
                refine tl_istore rfl (Nat.le_of_ble_eq_true rfl) rfl ?_
                refine tl_iload rfl rfl ?_
                show jT _ _ 102 _ _ _ _
                refine tl_iload_n rfl rfl ?_
                refine tl_iload_n rfl rfl ?_
                refine tl_iadd rfl ?_
                refine tl_icmp_ge (tgt := 130) rfl rfl ⟨by omega, by omega⟩ ⟨by omega, by omega⟩ (fun c7 => ?_) (fun c7 => ?_)
                · skip
                  refine tl_iload_n rfl rfl ?_
                  refine tl_iload_n rfl rfl ?_
                  refine tl_iadd rfl ?_
                  show jT _ _ 133 _ _ _ _
                  refine tl_istore_n rfl (Nat.le_of_ble_eq_true rfl) rfl ?_
                  refine tl_goto (tgt := 7) rfl rfl ?_
                  show jT _ _ 7 _ _ _ _
                  -- leaf 1 at 7
                  first
                    | (exfalso; omega)
                    | (refine jT.loc ?_ (ih (k + srn V k) (rnS V k L) (fu - 1) h5 (some (.int (jI ((srn V k : Int))))) (some (.int (jI ((k : Int))))) (by omega) ⟨by omega, by omega, k5, fr.trans (f1.trans f5), by omega, ?_⟩)
                       · rw [show ((k + srn V k : Nat) : Int) = (k : Int) + (srn V k : Int) by omega]
                         rfl
                       · rw [← hE, show fu = fu - 1 + 1 by omega, rnA, if_pos ck]; rfl)
                · show jT _ _ 108 _ _ _ _
                  refine tl_iload_n rfl rfl ?_
                  refine tl_iconst rfl ?_
                  refine tl_icmp_ge (tgt := 130) rfl rfl ⟨by omega, by omega⟩ ⟨by omega, by omega⟩ (fun c8 => ?_) (fun c8 => ?_)
                  · skip
                    refine tl_iload_n rfl rfl ?_
                    refine tl_iload_n rfl rfl ?_
                    show jT _ _ 132 _ _ _ _
                    refine tl_iadd rfl ?_
                    refine tl_istore_n rfl (Nat.le_of_ble_eq_true rfl) rfl ?_
                    refine tl_goto (tgt := 7) rfl rfl ?_
                    show jT _ _ 7 _ _ _ _
                    -- leaf 2 at 7
                    first
                      | (exfalso; omega)
                      | (refine jT.loc ?_ (ih (k + srn V k) (rnS V k L) (fu - 1) h5 (some (.int (jI ((srn V k : Int))))) (some (.int (jI ((k : Int))))) (by omega) ⟨by omega, by omega, k5, fr.trans (f1.trans f5), by omega, ?_⟩)
                         · rw [show ((k + srn V k : Nat) : Int) = (k : Int) + (srn V k : Int) by omega]
                           rfl
                         · rw [← hE, show fu = fu - 1 + 1 by omega, rnA, if_pos ck]; rfl)
                  · show jT _ _ 113 _ _ _ _
                    exfalso; omega
              · show jT _ _ 74 _ _ _ _
                exfalso; omega
        · show jT _ _ 31 _ _ _ _
          exfalso; omega
      · show jT _ _ 19 _ _ _ _
        exfalso; omega
set_option maxRecDepth 20000 in
set_option maxHeartbeats 1000000 in
theorem r_way2 (l : Launch) (h : jH) (V : List Int) (kV : BL h V) (v64 : V.length ≤ 64) (hV : LB V) (L : List Int) (kL : ML h L) (hL : L.length + 3 * V.length ≤ 396) : cV l 268 [.ref 388, .int (jI 2)] h (fun h' => ML h' (L ++ pkW V 2) ∧ FM h h') := by
  refine cV.of rfl rfl ?_
  refine tl_aload_n rfl rfl ?_
  refine tl_iload_n rfl rfl ?_
  refine tl_v1v (c9 := 12) (r_add l h L kL (by omega) 2) rfl rfl rfl rfl rfl (Nat.le_of_ble_eq_true rfl) (fun h1 p1 => ?_)
  obtain ⟨k1, f1⟩ := p1
  have kv1 := kV.fm f1
  refine tl_iconst rfl ?_
  refine tl_istore_n rfl (Nat.le_of_ble_eq_true rfl) rfl ?_
  show jT _ _ 7 _ _ _ _
  -- leaf 0 at 7
  refine r_w2_lp l h1 V kv1 v64 hV L (L ++ pkW V 2) hL _ (fun mem hi => ⟨rfl, hi.1, f1.trans hi.2⟩) _ 0 (L ++ [2]) V.length h1 _ _ (Nat.lt_succ_self _) ⟨by omega, by rw [List.length_append]; show L.length + 1 ≤ _; omega, k1, FM.rfl', by omega, ?_⟩
  rw [rnA_app]; rfl
theorem r_addRow (l : Launch) (h : jH) (V : List Int) (kV : BL h V) (v64 : V.length ≤ 64) (hV : LB V) (L : List Int) (kL : ML h L) (hL : L.length + 3 * V.length ≤ 396) (w9 : Nat) (hw9 : w9 < 3) : cV l 268 [.ref 388, .int (jI (w9 : Int))] h (fun h' => ML h' (L ++ pkW V w9) ∧ FM h h') := by
  rcases (show w9 = 0 ∨ w9 = 1 ∨ w9 = 2 by omega) with e | e | e
  · subst e; exact r_way0 l h V kV v64 hV L kL hL
  · subst e; exact r_way1 l h V kV v64 hV L kL hL
  · subst e; exact r_way2 l h V kV v64 hV L kL hL
/-- which way is the shortest so far, and how long it is -/
def bwS (V : List Int) : Nat → Nat × Int
  | 0 => (0, 1000000)
  | w9 + 1 => if ((pkW V w9).length : Int) < (bwS V w9).2 then (w9, ((pkW V w9).length : Int)) else bwS V w9
theorem pkW_b {V : List Int} (v64 : V.length ≤ 64) (hV : LB V) (w9 : Nat) : (pkW V w9).length ≤ 193 := by
  have q0 := pk0_b hV
  have q1 := pk1_b v64 hV
  have q2 := pk2_b v64 hV
  rw [pkW]
  split
  · omega
  · split <;> omega
theorem bwS_b {V : List Int} (v64 : V.length ≤ 64) (hV : LB V) : ∀ w9, (bwS V w9).1 ≤ w9 ∧ 0 ≤ (bwS V w9).2 ∧ (bwS V w9).2 ≤ 1000000 := by
  intro w9
  induction w9 with
  | zero => exact ⟨Nat.le_refl _, by show (0 : Int) ≤ 1000000; omega, Int.le_refl _⟩
  | succ w9 ih =>
    have := pkW_b v64 hV w9
    rw [bwS]
    split
    · exact ⟨by show w9 ≤ _; omega, by show (0 : Int) ≤ ((pkW V w9).length : Int); omega, by show ((pkW V w9).length : Int) ≤ _; omega⟩
    · exact ⟨by omega, ih.2⟩
theorem bwS_e {V : List Int} (v64 : V.length ≤ 64) (hV : LB V) : (bwS V 3).1 < 3 ∧ pkW V (bwS V 3).1 = pkb V := by
  have q0 := pk0_b hV
  have s1 : bwS V 1 = (0, ((pk0 V).length : Int)) := by
    rw [bwS, if_pos (by show ((pk0 V).length : Int) < 1000000; omega)]; rfl
  have s2 : bwS V 2 = if (pk1 V).length < (pk0 V).length then (1, ((pk1 V).length : Int)) else (0, ((pk0 V).length : Int)) := by
    rw [bwS, s1]
    show (if ((pk1 V).length : Int) < ((pk0 V).length : Int) then (1, ((pk1 V).length : Int)) else (0, ((pk0 V).length : Int))) = _
    by_cases c : (pk1 V).length < (pk0 V).length
    · rw [if_pos c, if_pos (by omega)]
    · rw [if_neg c, if_neg (by omega)]
  have s3 : bwS V 3 = if ((pk2 V).length : Int) < (bwS V 2).2 then (2, ((pk2 V).length : Int)) else bwS V 2 := rfl
  rw [pkb, pkA]
  by_cases c : (pk1 V).length < (pk0 V).length
  · rw [if_pos c] at s2
    rw [s2] at s3
    rw [if_pos c]
    by_cases d : (pk2 V).length < (pk1 V).length
    · rw [if_pos (by show ((pk2 V).length : Int) < ((pk1 V).length : Int); omega)] at s3
      rw [s3, if_pos d]; exact ⟨by show 2 < 3; omega, rfl⟩
    · rw [if_neg (by show ¬ ((pk2 V).length : Int) < ((pk1 V).length : Int); omega)] at s3
      rw [s3, if_neg d]; exact ⟨by show 1 < 3; omega, rfl⟩
  · rw [if_neg c] at s2
    rw [s2] at s3
    rw [if_neg c]
    by_cases d : (pk2 V).length < (pk0 V).length
    · rw [if_pos (by show ((pk2 V).length : Int) < ((pk0 V).length : Int); omega)] at s3
      rw [s3, if_pos d]; exact ⟨by show 2 < 3; omega, rfl⟩
    · rw [if_neg (by show ¬ ((pk2 V).length : Int) < ((pk0 V).length : Int); omega)] at s3
      rw [s3, if_neg d]; exact ⟨by show 0 < 3; omega, rfl⟩
theorem ML.cut {h : jH} {L N : List Int} (k : ML h (L ++ N)) : ML (hs h 388 27 (L.length : Int)) L ∧ FM h (hs h 388 27 (L.length : Int)) := ⟨⟨hs_s, fun i hi => by rw [hs_o (by decide), k.2 i (by rw [List.length_append]; omega), gd_l hi]⟩, fun y y1 y2 => hs_O y1, fun q hq => hs_k hq⟩
set_option maxRecDepth 20000 in
set_option maxHeartbeats 1000000 in
theorem r_sho_lp (l : Launch) (h : jH) (V : List Int) (kV : BL h V) (v64 : V.length ≤ 64) (hV : LB V) (L : List Int) (hL : L.length + 3 * V.length ≤ 396) (P : Option Value → jH → Prop) (hP : ∀ mem, (ML mem (L ++ pkb V) ∧ FM h mem) → P none mem) : ∀ (m : Nat) (w9 : Nat) (N : List Int) (mem : jH), 3 - w9 < m → (w9 ≤ 3 ∧ ML mem (L ++ N) ∧ FM h mem) → jT l 269 14 [some (.ref 388), some (.int (jI ((L.length : Int)))), some (.int (jI (((bwS V w9).1 : Int)))), some (.int (jI ((bwS V w9).2))), some (.int (jI (((w9 : Nat) : Int))))] [] mem P := by
  intro m
  induction m with
  | zero => intro w9 N mem hk; omega
  | succ m ih =>
    intro w9 N mem hk hi
    obtain ⟨i0, i1, fr⟩ := hi
    have kvm := kV.fm fr
    have kc := i1.cut
    have wb := bwS_b v64 hV w9
    have pw := pkW_b v64 hV w9
    have es : bwS V (w9 + 1) = if ((pkW V w9).length : Int) < (bwS V w9).2 then (w9, ((pkW V w9).length : Int)) else bwS V w9 := rfl
    refine tl_iload rfl rfl ?_
    refine tl_iconst rfl ?_
    refine tl_icmp_ge (tgt := 75) rfl rfl ⟨by omega, by omega⟩ ⟨by omega, by omega⟩ (fun c1 => ?_) (fun c1 => ?_)
    · skip
      have e3 : w9 = 3 := by omega
      have be := bwS_e v64 hV
      refine tl_aload_n rfl rfl ?_
      refine tl_iload_n rfl rfl ?_
      refine tl_puti (c := 12) (k9 := 27) rfl rfl rfl rfl ?_
      show jT _ _ 80 _ _ _ _
      refine tl_aload_n rfl rfl ?_
      refine tl_iload_n rfl rfl ?_
      refine tl_v1v (c9 := 12) (r_addRow l (hs mem 388 27 (L.length : Int)) V (kvm.fm kc.2) v64 hV L kc.1 hL (bwS V w9).1 (by rw [e3]; exact be.1)) rfl rfl rfl rfl rfl (Nat.le_of_ble_eq_true rfl) (fun h1 p1 => ?_)
      obtain ⟨k1, f1⟩ := p1
      refine tl_ret rfl ?_
      -- leaf 0 at 85
      rw [e3, be.2] at k1
      exact hP h1 ⟨k1, fr.trans (kc.2.trans f1)⟩
    · show jT _ _ 20 _ _ _ _
      refine tl_aload_n rfl rfl ?_
      refine tl_iload_n rfl rfl ?_
      refine tl_puti (c := 12) (k9 := 27) rfl rfl rfl rfl ?_
      show jT _ _ 25 _ _ _ _
      refine tl_aload_n rfl rfl ?_
      refine tl_iload rfl rfl ?_
      refine tl_v1v (c9 := 12) (r_addRow l (hs mem 388 27 (L.length : Int)) V (kvm.fm kc.2) v64 hV L kc.1 hL w9 (by omega)) rfl rfl rfl rfl rfl (Nat.le_of_ble_eq_true rfl) (fun h1 p1 => ?_)
      obtain ⟨k1, f1⟩ := p1
      have el : ((L ++ pkW V w9).length : Int) = (L.length : Int) + ((pkW V w9).length : Int) := by rw [List.length_append]; omega
      refine tl_aload_n rfl rfl ?_
      refine tl_geti (c := 12) (k9 := 27) rfl rfl rfl ?_
      rw [k1.1, el]
      refine tl_iload_n rfl rfl ?_
      refine tl_isub rfl ?_
      show jT _ _ 37 _ _ _ _
      refine tl_iload_n rfl rfl ?_
      refine tl_icmp_ge (tgt := 46) rfl rfl ⟨by omega, by omega⟩ ⟨by omega, by omega⟩ (fun c2 => ?_) (fun c2 => ?_)
      · skip
        refine tl_iload_n rfl rfl ?_
        refine tl_istore_n rfl (Nat.le_of_ble_eq_true rfl) rfl ?_
        refine tl_aload_n rfl rfl ?_
        refine tl_geti (c := 12) (k9 := 27) rfl rfl rfl ?_
        rw [k1.1, el]
        refine tl_iload_n rfl rfl ?_
        show jT _ _ 53 _ _ _ _
        refine tl_isub rfl ?_
        refine tl_iload_n rfl rfl ?_
        refine tl_icmp_ge (tgt := 67) rfl rfl ⟨by omega, by omega⟩ ⟨by omega, by omega⟩ (fun c3 => ?_) (fun c3 => ?_)
        · skip
          refine tl_iload_n rfl rfl ?_
          refine tl_istore_n rfl (Nat.le_of_ble_eq_true rfl) rfl ?_
          refine tl_iinc rfl rfl rfl ?_
          refine tl_goto (tgt := 14) rfl rfl ?_
          show jT _ _ 14 _ _ _ _
          -- leaf 1 at 14
          first
            | (exfalso; omega)
            | (rw [if_pos (by omega)] at es
               refine jT.loc ?_ (ih (w9 + 1) (pkW V w9) h1 (by omega) ⟨by omega, k1, fr.trans (kc.2.trans f1)⟩)
               rw [es, show (L.length : Int) + ((pkW V w9).length : Int) - (L.length : Int) = ((pkW V w9).length : Int) by omega]
               rfl)
            | (rw [if_neg (by omega)] at es
               refine jT.loc ?_ (ih (w9 + 1) (pkW V w9) h1 (by omega) ⟨by omega, k1, fr.trans (kc.2.trans f1)⟩)
               rw [es]
               rfl)
        · show jT _ _ 58 _ _ _ _
          show jT _ _ 58 _ _ _ _
          refine tl_aload_n rfl rfl ?_
          refine tl_geti (c := 12) (k9 := 27) rfl rfl rfl ?_
          rw [k1.1, el]
          refine tl_iload_n rfl rfl ?_
          refine tl_isub rfl ?_
          refine tl_goto (tgt := 68) rfl rfl ?_
          refine tl_istore_n rfl (Nat.le_of_ble_eq_true rfl) rfl ?_
          refine tl_iinc rfl rfl rfl ?_
          show jT _ _ 72 _ _ _ _
          refine tl_goto (tgt := 14) rfl rfl ?_
          show jT _ _ 14 _ _ _ _
          -- leaf 2 at 14
          first
            | (exfalso; omega)
            | (rw [if_pos (by omega)] at es
               refine jT.loc ?_ (ih (w9 + 1) (pkW V w9) h1 (by omega) ⟨by omega, k1, fr.trans (kc.2.trans f1)⟩)
               rw [es, show (L.length : Int) + ((pkW V w9).length : Int) - (L.length : Int) = ((pkW V w9).length : Int) by omega]
               rfl)
            | (rw [if_neg (by omega)] at es
               refine jT.loc ?_ (ih (w9 + 1) (pkW V w9) h1 (by omega) ⟨by omega, k1, fr.trans (kc.2.trans f1)⟩)
               rw [es]
               rfl)
      · show jT _ _ 41 _ _ _ _
        refine tl_iload rfl rfl ?_
        refine tl_goto (tgt := 47) rfl rfl ?_
        refine tl_istore_n rfl (Nat.le_of_ble_eq_true rfl) rfl ?_
        refine tl_aload_n rfl rfl ?_
        refine tl_geti (c := 12) (k9 := 27) rfl rfl rfl ?_
        rw [k1.1, el]
        refine tl_iload_n rfl rfl ?_
        show jT _ _ 53 _ _ _ _
        refine tl_isub rfl ?_
        refine tl_iload_n rfl rfl ?_
        refine tl_icmp_ge (tgt := 67) rfl rfl ⟨by omega, by omega⟩ ⟨by omega, by omega⟩ (fun c4 => ?_) (fun c4 => ?_)
        · skip
          refine tl_iload_n rfl rfl ?_
          refine tl_istore_n rfl (Nat.le_of_ble_eq_true rfl) rfl ?_
          refine tl_iinc rfl rfl rfl ?_
          refine tl_goto (tgt := 14) rfl rfl ?_
          show jT _ _ 14 _ _ _ _
          -- leaf 3 at 14
          first
            | (exfalso; omega)
            | (rw [if_pos (by omega)] at es
               refine jT.loc ?_ (ih (w9 + 1) (pkW V w9) h1 (by omega) ⟨by omega, k1, fr.trans (kc.2.trans f1)⟩)
               rw [es, show (L.length : Int) + ((pkW V w9).length : Int) - (L.length : Int) = ((pkW V w9).length : Int) by omega]
               rfl)
            | (rw [if_neg (by omega)] at es
               refine jT.loc ?_ (ih (w9 + 1) (pkW V w9) h1 (by omega) ⟨by omega, k1, fr.trans (kc.2.trans f1)⟩)
               rw [es]
               rfl)
        · show jT _ _ 58 _ _ _ _
          show jT _ _ 58 _ _ _ _
          refine tl_aload_n rfl rfl ?_
          refine tl_geti (c := 12) (k9 := 27) rfl rfl rfl ?_
          rw [k1.1, el]
          refine tl_iload_n rfl rfl ?_
          refine tl_isub rfl ?_
          refine tl_goto (tgt := 68) rfl rfl ?_
          refine tl_istore_n rfl (Nat.le_of_ble_eq_true rfl) rfl ?_
          refine tl_iinc rfl rfl rfl ?_
          show jT _ _ 72 _ _ _ _
          refine tl_goto (tgt := 14) rfl rfl ?_
          show jT _ _ 14 _ _ _ _
          -- leaf 4 at 14
          first
            | (exfalso; omega)
            | (rw [if_pos (by omega)] at es
               refine jT.loc ?_ (ih (w9 + 1) (pkW V w9) h1 (by omega) ⟨by omega, k1, fr.trans (kc.2.trans f1)⟩)
               rw [es, show (L.length : Int) + ((pkW V w9).length : Int) - (L.length : Int) = ((pkW V w9).length : Int) by omega]
               rfl)
            | (rw [if_neg (by omega)] at es
               refine jT.loc ?_ (ih (w9 + 1) (pkW V w9) h1 (by omega) ⟨by omega, k1, fr.trans (kc.2.trans f1)⟩)
               rw [es]
               rfl)
set_option maxRecDepth 20000 in
set_option maxHeartbeats 1000000 in
theorem r_shortest (l : Launch) (h : jH) (V : List Int) (kV : BL h V) (v64 : V.length ≤ 64) (hV : LB V) (L : List Int) (hL : L.length + 3 * V.length ≤ 396) (kL : ML h L) : cV l 269 [.ref 388] h (fun h' => ML h' (L ++ pkb V) ∧ FM h h') := by
  refine cV.of rfl rfl ?_
  refine tl_aload_n rfl rfl ?_
  refine tl_geti (c := 12) (k9 := 27) rfl rfl rfl ?_
  rw [kL.1]
  refine tl_istore_n rfl (Nat.le_of_ble_eq_true rfl) rfl ?_
  refine tl_iconst rfl ?_
  refine tl_istore_n rfl (Nat.le_of_ble_eq_true rfl) rfl ?_
  refine tl_ldcw (z := 1000000) rfl rfl (by decide +kernel) ?_
  show jT _ _ 10 _ _ _ _
  refine tl_istore_n rfl (Nat.le_of_ble_eq_true rfl) rfl ?_
  refine tl_iconst rfl ?_
  refine tl_istore rfl (Nat.le_of_ble_eq_true rfl) rfl ?_
  show jT _ _ 14 _ _ _ _
  -- leaf 0 at 14
  exact r_sho_lp l h V kV v64 hV L hL _ (fun mem hi => ⟨rfl, hi⟩) _ 0 [] h (Nat.lt_succ_self _) ⟨Nat.zero_le _, by rw [List.append_nil]; exact kL, FM.rfl'⟩
