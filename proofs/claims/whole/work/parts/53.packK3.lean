/-! packing, of the walked file: the three ways, the shortest, the whole patch -/
theorem D5 {r2 a2 : Nat} (h : (r2 < 335 ∨ 338 < r2) ∧ (a2 < 335 ∨ 338 < a2)) : Dst 335 336 r2 a2 ∧ Dst 337 338 r2 a2 := by
  unfold Dst; omega
set_option maxRecDepth 20000 in
set_option maxHeartbeats 1000000 in
theorem k_plain (l : Launch) {r2 a2 n2 : Nat} (hS2 : RowS r2 a2 n2) (hD : (r2 < 335 ∨ 338 < r2) ∧ (a2 < 335 ∨ 338 < a2)) (h : jH) (V : List Int) (kV : RL h r2 a2 V) (v64 : V.length ≤ 64) (v2 : V.length ≤ n2) (hV : LB V) : cV l 54 [.ref 335, .ref r2] h (fun h' => RL h' 335 336 (pk0 V) ∧ ∀ y, y ≠ 335 → y ≠ 336 → h' y = h y) := by
  refine cV.of rfl rfl ?_
  refine tl_aload_n rfl rfl ?_
  refine tl_iconst rfl ?_
  refine tl_puti (c := 8) (k9 := 1) rfl rfl rfl rfl ?_
  refine tl_aload_n rfl rfl ?_
  refine tl_iconst rfl ?_
  refine tl_s2v (k_addNum l R335 (hs h 335 1 0) [] ⟨hs_s, fun i hi => absurd hi (by show ¬ i < 0; omega)⟩ (by show 0 + 2 ≤ 300; omega) 0 (by omega) (by omega)) rfl rfl rfl (Nat.le_of_ble_eq_true rfl) (fun h1 p1 => ?_)
  obtain ⟨k1, f1⟩ := p1
  show jT _ _ 10 _ _ _ _
  refine tl_aload_n rfl rfl ?_
  refine tl_aload_n rfl rfl ?_
  refine tl_v1v (c9 := 8) (c_addR l R335 hS2 (D5 hD).1 h1 _ V k1 (kV.of ((f1 r2 (by omega) (by omega)).trans (hs_O (by omega))) ((f1 a2 (by omega) (by omega)).trans (hs_O (by omega)))) v2 (by rw [nm_1 (by omega)]; show 1 + V.length ≤ 300; omega)) rfl rfl rfl rfl rfl (Nat.le_of_ble_eq_true rfl) (fun h2 p2 => ?_)
  obtain ⟨k2, f2⟩ := p2
  refine tl_ret rfl ?_
  -- leaf 0 at 15
  refine ⟨rfl, ?_, fun y y1 y2 => (f2 y y1 y2).trans ((f1 y y1 y2).trans (hs_O y1))⟩
  rw [nm_1 (by omega)] at k2
  rw [pk0, slc_all]
  exact k2
set_option maxRecDepth 20000 in
set_option maxHeartbeats 1000000 in
theorem k_zr_A (l : Launch) {r2 a2 n2 : Nat} (hS2 : RowS r2 a2 n2) (mem : jH) (V : List Int) (kvm : RL mem r2 a2 V) (v64 : V.length ≤ 64) (v2 : V.length ≤ n2) (hV : LB V) (k rd : Nat) (hk : k ≤ V.length) (y5 y6 : Option Value) (P : Option Value → jH → Prop) (hx : jT l 55 57 [some (.ref 337), some (.ref r2), some (.int (jI ((k : Int)))), some (.int (jI ((rd : Int)))), some (.int (jI ((k : Int) + (zrn V k : Int)))), y5, y6] [] mem P) : ∀ (m : Nat) (q : Nat), V.length - q < m → (k + q ≤ V.length ∧ ∀ i, i < q → zrP V k i = true) → jT l 55 33 [some (.ref 337), some (.ref r2), some (.int (jI ((k : Int)))), some (.int (jI ((rd : Int)))), some (.int (jI ((k : Int) + (q : Int)))), y5, y6] [] mem P := by
  have hle := hS2.le
  intro m
  induction m with
  | zero => intro q hk; omega
  | succ m ih =>
    intro q hk hi
    obtain ⟨i0, i1⟩ := hi
    refine tl_iload rfl rfl ?_
    refine tl_aload_n rfl rfl ?_
    refine tl_geti (c := 8) (k9 := 1) rfl hS2.1 rfl ?_
    rw [kvm.1]
    refine tl_icmp_ge (tgt := 57) rfl rfl ⟨by omega, by omega⟩ ⟨by omega, by omega⟩ (fun c1 => ?_) (fun c1 => ?_)
    · skip
      show jT _ _ 57 _ _ _ _
      -- leaf 0 at 57
      have e : zrn V k = q := fst_uniq (Nat.zero_le _) (by omega) (fun i _ hi => i1 i hi) (decide_eq_false (by omega))
      rw [e] at hx
      exact hx
    · show jT _ _ 42 _ _ _ _
      have vb := hV.gd (i := k + q) (by omega)
      have vb1 := vb.1
      have vb2 := vb.2
      refine tl_aload_n rfl rfl ?_
      refine tl_iload rfl rfl ?_
      show jT _ _ 45 _ _ _ _
      refine tl_v1i (c9 := 8) (c_Row_get l hS2 mem ((k : Int) + (q : Int)) (by rw [kvm.1]; omega) (by rw [kvm.1]; omega) ⟨by omega, by omega⟩) rfl rfl rfl hS2.1 rfl (Nat.le_of_ble_eq_true rfl) (fun z1 h1 p1 => ?_)
      obtain ⟨q1, p1⟩ := p1
      have q1 := q1.symm
      subst q1
      rw [kvm.1, if_pos (by omega)] at p1
      rw [show ((k : Int) + (q : Int)).toNat = k + q by omega, kvm.2 (k + q) (by omega)] at p1
      refine tl_if_ne (tgt := 57) rfl rfl ⟨by omega, by omega⟩ (fun c2 => ?_) (fun c2 => ?_)
      · skip
        show jT _ _ 57 _ _ _ _
        -- leaf 1 at 57
        have e : zrn V k = q := fst_uniq (Nat.zero_le _) (by omega) (fun i _ hi => i1 i hi) (decide_eq_false (by omega))
        rw [e] at hx
        exact hx
      · show jT _ _ 51 _ _ _ _
        refine tl_iinc rfl rfl rfl ?_
        refine tl_goto (tgt := 33) rfl rfl ?_
        show jT _ _ 33 _ _ _ _
        -- leaf 2 at 33
        refine jT.loc ?_ (ih (q + 1) (by omega) ⟨by omega, fun i hi => by by_cases c : i = q; (subst c; exact decide_eq_true (by omega)); exact i1 i (by omega)⟩)
        rw [show (k : Int) + ((q + 1 : Nat) : Int) = (k : Int) + (q : Int) + 1 by omega]
        rfl
set_option maxRecDepth 20000 in
set_option maxHeartbeats 1000000 in
theorem k_zr_B (l : Launch) {r2 a2 n2 : Nat} (hS2 : RowS r2 a2 n2) (mem : jH) (V : List Int) (kvm : RL mem r2 a2 V) (v64 : V.length ≤ 64) (v2 : V.length ≤ n2) (hV : LB V) (c0 : Int) (rd k : Nat) (hk : k ≤ V.length) (y6 : Option Value) (P : Option Value → jH → Prop) (hx : jT l 55 93 [some (.ref 337), some (.ref r2), some (.int (jI (c0))), some (.int (jI ((rd : Int)))), some (.int (jI ((k : Int)))), some (.int (jI ((k : Int) + (orn V k : Int)))), y6] [] mem P) : ∀ (m : Nat) (q : Nat), V.length - q < m → (k + q ≤ V.length ∧ ∀ i, i < q → orP V k i = true) → jT l 55 69 [some (.ref 337), some (.ref r2), some (.int (jI (c0))), some (.int (jI ((rd : Int)))), some (.int (jI ((k : Int)))), some (.int (jI ((k : Int) + (q : Int)))), y6] [] mem P := by
  have hle := hS2.le
  intro m
  induction m with
  | zero => intro q hk; omega
  | succ m ih =>
    intro q hk hi
    obtain ⟨i0, i1⟩ := hi
    refine tl_iload rfl rfl ?_
    refine tl_aload_n rfl rfl ?_
    refine tl_geti (c := 8) (k9 := 1) rfl hS2.1 rfl ?_
    rw [kvm.1]
    refine tl_icmp_ge (tgt := 93) rfl rfl ⟨by omega, by omega⟩ ⟨by omega, by omega⟩ (fun c1 => ?_) (fun c1 => ?_)
    · skip
      show jT _ _ 93 _ _ _ _
      -- leaf 0 at 93
      have e : orn V k = q := fst_uniq (Nat.zero_le _) (by omega) (fun i _ hi => i1 i hi) (decide_eq_false (by omega))
      rw [e] at hx
      exact hx
    · show jT _ _ 78 _ _ _ _
      have vb := hV.gd (i := k + q) (by omega)
      have vb1 := vb.1
      have vb2 := vb.2
      refine tl_aload_n rfl rfl ?_
      refine tl_iload rfl rfl ?_
      show jT _ _ 81 _ _ _ _
      refine tl_v1i (c9 := 8) (c_Row_get l hS2 mem ((k : Int) + (q : Int)) (by rw [kvm.1]; omega) (by rw [kvm.1]; omega) ⟨by omega, by omega⟩) rfl rfl rfl hS2.1 rfl (Nat.le_of_ble_eq_true rfl) (fun z1 h1 p1 => ?_)
      obtain ⟨q1, p1⟩ := p1
      have q1 := q1.symm
      subst q1
      rw [kvm.1, if_pos (by omega)] at p1
      rw [show ((k : Int) + (q : Int)).toNat = k + q by omega, kvm.2 (k + q) (by omega)] at p1
      refine tl_if_eq (tgt := 93) rfl rfl ⟨by omega, by omega⟩ (fun c2 => ?_) (fun c2 => ?_)
      · skip
        show jT _ _ 93 _ _ _ _
        -- leaf 1 at 93
        have e : orn V k = q := fst_uniq (Nat.zero_le _) (by omega) (fun i _ hi => i1 i hi) (decide_eq_false (by omega))
        rw [e] at hx
        exact hx
      · show jT _ _ 87 _ _ _ _
        refine tl_iinc rfl rfl rfl ?_
        refine tl_goto (tgt := 69) rfl rfl ?_
        show jT _ _ 69 _ _ _ _
        -- leaf 2 at 69
        refine jT.loc ?_ (ih (q + 1) (by omega) ⟨by omega, fun i hi => by by_cases c : i = q; (subst c; exact decide_eq_true (by omega)); exact i1 i (by omega)⟩)
        rw [show (k : Int) + ((q + 1 : Nat) : Int) = (k : Int) + (q : Int) + 1 by omega]
        rfl
set_option maxRecDepth 20000 in
set_option maxHeartbeats 1000000 in
theorem k_zr_C (l : Launch) {r2 a2 n2 : Nat} (hS2 : RowS r2 a2 n2) (hD : (r2 < 335 ∨ 338 < r2) ∧ (a2 < 335 ∨ 338 < a2)) (h : jH) (V : List Int) (kV : RL h r2 a2 V) (v64 : V.length ≤ 64) (v2 : V.length ≤ n2) (hV : LB V) (c0 : Int) (rd k w : Nat) (L : List Int) (hkw : k + w ≤ V.length) (hL : L.length + w ≤ 300) (P : Option Value → jH → Prop) (hx : ∀ mem y6, (RL mem 337 338 (L ++ slc V k w) ∧ ∀ y, y ≠ 337 → y ≠ 338 → mem y = h y) → jT l 55 136 [some (.ref 337), some (.ref r2), some (.int (jI (c0))), some (.int (jI ((rd : Int)))), some (.int (jI ((k : Int)))), some (.int (jI ((k : Int) + (w : Int)))), y6] [] mem P) : ∀ (m : Nat) (q : Nat) (mem : jH), w - q < m → (q ≤ w ∧ RL mem 337 338 (L ++ slc V k q) ∧ ∀ y, y ≠ 337 → y ≠ 338 → mem y = h y) → jT l 55 113 [some (.ref 337), some (.ref r2), some (.int (jI (c0))), some (.int (jI ((rd : Int)))), some (.int (jI ((k : Int)))), some (.int (jI ((k : Int) + (w : Int)))), some (.int (jI ((k : Int) + (q : Int))))] [] mem P := by
  have hle := hS2.le
  intro m
  induction m with
  | zero => intro q mem hk; omega
  | succ m ih =>
    intro q mem hk hi
    obtain ⟨i0, i1, fr⟩ := hi
    have kvm : RL mem r2 a2 V := kV.of (fr r2 (by omega) (by omega)) (fr a2 (by omega) (by omega))
    refine tl_iload rfl rfl ?_
    refine tl_iload rfl rfl ?_
    refine tl_icmp_ge (tgt := 136) rfl rfl ⟨by omega, by omega⟩ ⟨by omega, by omega⟩ (fun c1 => ?_) (fun c1 => ?_)
    · skip
      show jT _ _ 136 _ _ _ _
      -- leaf 0 at 136
      have e : q = w := by omega
      rw [e] at i1
      exact hx mem _ ⟨i1, fr⟩
    · show jT _ _ 120 _ _ _ _
      refine tl_aload_n rfl rfl ?_
      refine tl_aload_n rfl rfl ?_
      refine tl_iload rfl rfl ?_
      show jT _ _ 124 _ _ _ _
      refine tl_v1i (c9 := 8) (c_Row_get l hS2 mem ((k : Int) + (q : Int)) (by rw [kvm.1]; omega) (by rw [kvm.1]; omega) ⟨by omega, by omega⟩) rfl rfl rfl hS2.1 rfl (Nat.le_of_ble_eq_true rfl) (fun z1 h1 p1 => ?_)
      obtain ⟨q1, p1⟩ := p1
      have q1 := q1.symm
      subst q1
      rw [kvm.1, if_pos (by omega)] at p1
      rw [show ((k : Int) + (q : Int)).toNat = k + q by omega, kvm.2 (k + q) (by omega)] at p1
      refine tl_v1v (c9 := 8) (c_addL l R337 mem _ i1 (by rw [List.length_append, slc_len]; omega) z1) rfl rfl rfl rfl rfl (Nat.le_of_ble_eq_true rfl) (fun h2 p2 => ?_)
      obtain ⟨k2, f2⟩ := p2
      refine tl_iinc rfl rfl rfl ?_
      refine tl_goto (tgt := 113) rfl rfl ?_
      show jT _ _ 113 _ _ _ _
      -- leaf 1 at 113
      refine jT.loc ?_ (ih (q + 1) h2 (by omega) ⟨by omega, by rw [slc, ← List.append_assoc, ← p1]; exact k2, fun y y1 y2 => (f2 y y1 y2).trans (fr y y1 y2)⟩)
      rw [show (k : Int) + ((q + 1 : Nat) : Int) = (k : Int) + (q : Int) + 1 by omega]
      rfl
set_option maxRecDepth 20000 in
set_option maxHeartbeats 1000000 in
theorem k_zr_lp (l : Launch) {r2 a2 n2 : Nat} (hS2 : RowS r2 a2 n2) (hD : (r2 < 335 ∨ 338 < r2) ∧ (a2 < 335 ∨ 338 < a2)) (h : jH) (V : List Int) (kV : RL h r2 a2 V) (v64 : V.length ≤ 64) (v2 : V.length ≤ n2) (hV : LB V) (E : List Int) (P : Option Value → jH → Prop) (hP : ∀ mem, (RL mem 337 338 E ∧ ∀ y, y ≠ 337 → y ≠ 338 → mem y = h y) → P none mem) : ∀ (m : Nat) (k : Nat) (rd : Nat) (L : List Int) (mem : jH) (y4 : Option Value) (y5 : Option Value) (y6 : Option Value), V.length - rd < m → (k ≤ V.length ∧ rd ≤ k ∧ L.length ≤ 1 + 3 * k ∧ RL mem 337 338 L ∧ (∀ y, y ≠ 337 → y ≠ 338 → mem y = h y) ∧ zrA V (V.length - rd) k L = E) → jT l 55 14 [some (.ref 337), some (.ref r2), some (.int (jI ((k : Int)))), some (.int (jI ((rd : Int)))), y4, y5, y6] [] mem P := by
  have hle := hS2.le
  intro m
  induction m with
  | zero => intro k rd L mem y4 y5 y6 hk; omega
  | succ m ih =>
    intro k rd L mem y4 y5 y6 hk hi
    obtain ⟨i0, i1, i2, i3, fr, hE⟩ := hi
    have kvm : RL mem r2 a2 V := kV.of (fr r2 (by omega) (by omega)) (fr a2 (by omega) (by omega))
    refine tl_iload_n rfl rfl ?_
    refine tl_aload_n rfl rfl ?_
    refine tl_geti (c := 8) (k9 := 1) rfl hS2.1 rfl ?_
    rw [kvm.1]
    refine tl_icmp_ge (tgt := 145) rfl rfl ⟨by omega, by omega⟩ ⟨by omega, by omega⟩ (fun c1 => ?_) (fun c1 => ?_)
    · skip
      refine tl_ret rfl ?_
      -- leaf 0 at 145
      rw [zrA_end (by omega)] at hE
      subst hE
      exact hP mem ⟨i3, fr⟩
    · show jT _ _ 22 _ _ _ _
      refine tl_iload_n rfl rfl ?_
      show jT _ _ 23 _ _ _ _
      refine tl_aload_n rfl rfl ?_
      refine tl_geti (c := 8) (k9 := 1) rfl hS2.1 rfl ?_
      rw [kvm.1]
      refine tl_icmp_ge (tgt := 145) rfl rfl ⟨by omega, by omega⟩ ⟨by omega, by omega⟩ (fun c2 => ?_) (fun c2 => ?_)
      · skip
        refine tl_ret rfl ?_
        -- leaf 1 at 145
        rw [zrA_end (by omega)] at hE
        subst hE
        exact hP mem ⟨i3, fr⟩
      · show jT _ _ 30 _ _ _ _
        refine tl_iload_n rfl rfl ?_
        refine tl_istore rfl (Nat.le_of_ble_eq_true rfl) rfl ?_
        show jT _ _ 33 _ _ _ _
        -- leaf 2 at 33
        have ck : k < V.length := by omega
        obtain ⟨q1, _, _⟩ := zrn_s v64 (show k ≤ V.length by omega)
        obtain ⟨q2, _, _⟩ := orn_s v64 q1
        have q3 := (zrS_b (L := L) v64 ck hV).2.2
        have l1 := (nm_len (v := ((zrn V k) : Int))).2.2 (by omega)
        have l2 := (nm_len (v := ((orn V (k + zrn V k)) : Int))).2.2 (by omega)
        refine jT.loc ?_ (k_zr_A l hS2 mem V kvm v64 v2 hV k rd (by omega) y5 y6 P ?_ _ 0 (Nat.lt_succ_self _) ⟨by omega, fun i hi => by omega⟩)
        · rw [show (k : Int) + ((0 : Nat) : Int) = (k : Int) by omega]
          rfl
        · skip
          refine tl_aload_n rfl rfl ?_
          refine tl_iload rfl rfl ?_
          refine tl_iload_n rfl rfl ?_
          refine tl_isub rfl ?_
          rw [show (k : Int) + ((zrn V k) : Int) - (k : Int) = ((zrn V k) : Int) by omega]
          refine tl_s2v (k_addNum l R337 mem L i3 (by omega) ((zrn V k) : Int) (by omega) (by omega)) rfl rfl rfl (Nat.le_of_ble_eq_true rfl) (fun h4 p4 => ?_)
          obtain ⟨k4, f4⟩ := p4
          have kv4 := kvm.of (f4 r2 (by omega) (by omega)) (f4 a2 (by omega) (by omega))
          refine tl_iload rfl rfl ?_
          show jT _ _ 67 _ _ _ _
          refine tl_istore rfl (Nat.le_of_ble_eq_true rfl) rfl ?_
          show jT _ _ 69 _ _ _ _
          -- leaf 0 at 69
          rw [show (k : Int) + ((zrn V k) : Int) = ((k + (zrn V k) : Nat) : Int) by omega]
          refine jT.loc ?_ (k_zr_B l hS2 h4 V kv4 v64 v2 hV (k : Int) rd (k + (zrn V k)) (by omega) y6 P ?_ _ 0 (Nat.lt_succ_self _) ⟨by omega, fun i hi => by omega⟩)
          · rw [show ((k + (zrn V k) : Nat) : Int) + ((0 : Nat) : Int) = ((k + (zrn V k) : Nat) : Int) by omega]
            rfl
          · skip
            refine tl_iload rfl rfl ?_
            refine tl_iload rfl rfl ?_
            refine tl_icmp_le (tgt := 109) rfl rfl ⟨by omega, by omega⟩ ⟨by omega, by omega⟩ (fun c1 => ?_) (fun c1 => ?_)
            · skip
              refine tl_iload rfl rfl ?_
              refine tl_istore rfl (Nat.le_of_ble_eq_true rfl) rfl ?_
              show jT _ _ 113 _ _ _ _
              -- leaf 0 at 113
              refine jT.loc ?_ (k_zr_C l hS2 hD h4 V kv4 v64 v2 hV (k : Int) rd (k + (zrn V k)) (orn V (k + zrn V k)) (L ++ nm ((zrn V k) : Int)) (by omega) (by rw [List.length_append, l1]; omega) P (fun mem3 y63 hj => ?_) _ 0 h4 (Nat.lt_succ_self _) ⟨by omega, by rw [slc, List.append_nil]; exact k4, fun y _ _ => rfl⟩)
              · rw [show ((k + (zrn V k) : Nat) : Int) + ((0 : Nat) : Int) = ((k + (zrn V k) : Nat) : Int) by omega]
                rfl
              · have eS : zrS V k L = (L ++ nm ((zrn V k) : Int)) ++ slc V (k + (zrn V k)) (orn V (k + zrn V k)) := by rw [zrS, if_neg (by omega), List.append_nil]
                rw [← eS] at hj
                refine tl_iload rfl rfl ?_
                refine tl_istore_n rfl (Nat.le_of_ble_eq_true rfl) rfl ?_
                refine tl_iinc rfl rfl rfl ?_
                refine tl_goto (tgt := 14) rfl rfl ?_
                show jT _ _ 14 _ _ _ _
                -- leaf 0 at 14
                refine jT.loc ?_ (ih (k + (zrn V k) + (orn V (k + zrn V k))) (rd + 1) (zrS V k L) mem3 (some (.int (jI (((k + (zrn V k) : Nat) : Int))))) (some (.int (jI (((k + (zrn V k) : Nat) : Int) + ((orn V (k + zrn V k)) : Int))))) y63 (by omega) ⟨by omega, by omega, ?_, hj.1, fun y y1 y2 => (hj.2 y y1 y2).trans ?_, ?_⟩)
                · rw [show ((k + (zrn V k) + (orn V (k + zrn V k)) : Nat) : Int) = ((k + (zrn V k) : Nat) : Int) + ((orn V (k + zrn V k)) : Int) by omega, show ((rd + 1 : Nat) : Int) = (rd : Int) + 1 by omega]
                  rfl
                · have := (zrS_b (L := L) v64 ck hV).1; omega
                · first | exact (f5 y y1 y2).trans ((f4 y y1 y2).trans (fr y y1 y2)) | exact (f4 y y1 y2).trans (fr y y1 y2)
                · rw [← hE, show V.length - rd = V.length - (rd + 1) + 1 by omega, zrA, if_pos ck]
            · show jT _ _ 100 _ _ _ _
              refine tl_aload_n rfl rfl ?_
              show jT _ _ 101 _ _ _ _
              refine tl_iload rfl rfl ?_
              refine tl_iload rfl rfl ?_
              refine tl_isub rfl ?_
              rw [show ((k + (zrn V k) : Nat) : Int) + ((orn V (k + zrn V k)) : Int) - ((k + (zrn V k) : Nat) : Int) = ((orn V (k + zrn V k)) : Int) by omega]
              refine tl_s2v (k_addNum l R337 h4 (L ++ nm ((zrn V k) : Int)) k4 (by rw [List.length_append, l1]; omega) ((orn V (k + zrn V k)) : Int) (by omega) (by omega)) rfl rfl rfl (Nat.le_of_ble_eq_true rfl) (fun h5 p5 => ?_)
              obtain ⟨k5, f5⟩ := p5
              refine tl_iload rfl rfl ?_
              refine tl_istore rfl (Nat.le_of_ble_eq_true rfl) rfl ?_
              show jT _ _ 113 _ _ _ _
              -- leaf 1 at 113
              refine jT.loc ?_ (k_zr_C l hS2 hD h5 V (kv4.of (f5 r2 (by omega) (by omega)) (f5 a2 (by omega) (by omega))) v64 v2 hV (k : Int) rd (k + (zrn V k)) (orn V (k + zrn V k)) ((L ++ nm ((zrn V k) : Int)) ++ nm ((orn V (k + zrn V k)) : Int)) (by omega) (by rw [List.length_append, List.length_append, l1, l2]; omega) P (fun mem3 y63 hj => ?_) _ 0 h5 (Nat.lt_succ_self _) ⟨by omega, by rw [slc, List.append_nil]; exact k5, fun y _ _ => rfl⟩)
              · rw [show ((k + (zrn V k) : Nat) : Int) + ((0 : Nat) : Int) = ((k + (zrn V k) : Nat) : Int) by omega]
                rfl
              · have eS : zrS V k L = (L ++ nm ((zrn V k) : Int)) ++ nm ((orn V (k + zrn V k)) : Int) ++ slc V (k + (zrn V k)) (orn V (k + zrn V k)) := by rw [zrS, if_pos (by omega)]
                rw [← eS] at hj
                refine tl_iload rfl rfl ?_
                refine tl_istore_n rfl (Nat.le_of_ble_eq_true rfl) rfl ?_
                refine tl_iinc rfl rfl rfl ?_
                refine tl_goto (tgt := 14) rfl rfl ?_
                show jT _ _ 14 _ _ _ _
                -- leaf 0 at 14
                refine jT.loc ?_ (ih (k + (zrn V k) + (orn V (k + zrn V k))) (rd + 1) (zrS V k L) mem3 (some (.int (jI (((k + (zrn V k) : Nat) : Int))))) (some (.int (jI (((k + (zrn V k) : Nat) : Int) + ((orn V (k + zrn V k)) : Int))))) y63 (by omega) ⟨by omega, by omega, ?_, hj.1, fun y y1 y2 => (hj.2 y y1 y2).trans ?_, ?_⟩)
                · rw [show ((k + (zrn V k) + (orn V (k + zrn V k)) : Nat) : Int) = ((k + (zrn V k) : Nat) : Int) + ((orn V (k + zrn V k)) : Int) by omega, show ((rd + 1 : Nat) : Int) = (rd : Int) + 1 by omega]
                  rfl
                · have := (zrS_b (L := L) v64 ck hV).1; omega
                · first | exact (f5 y y1 y2).trans ((f4 y y1 y2).trans (fr y y1 y2)) | exact (f4 y y1 y2).trans (fr y y1 y2)
                · rw [← hE, show V.length - rd = V.length - (rd + 1) + 1 by omega, zrA, if_pos ck]
set_option maxRecDepth 20000 in
set_option maxHeartbeats 1000000 in
theorem k_zeros (l : Launch) {r2 a2 n2 : Nat} (hS2 : RowS r2 a2 n2) (hD : (r2 < 335 ∨ 338 < r2) ∧ (a2 < 335 ∨ 338 < a2)) (h : jH) (V : List Int) (kV : RL h r2 a2 V) (v64 : V.length ≤ 64) (v2 : V.length ≤ n2) (hV : LB V) : cV l 55 [.ref 337, .ref r2] h (fun h' => RL h' 337 338 (pk1 V) ∧ ∀ y, y ≠ 337 → y ≠ 338 → h' y = h y) := by
  refine cV.of rfl rfl ?_
  refine tl_aload_n rfl rfl ?_
  refine tl_iconst rfl ?_
  refine tl_puti (c := 8) (k9 := 1) rfl rfl rfl rfl ?_
  refine tl_aload_n rfl rfl ?_
  refine tl_iconst rfl ?_
  refine tl_s2v (k_addNum l R337 (hs h 337 1 0) [] ⟨hs_s, fun i hi => absurd hi (by show ¬ i < 0; omega)⟩ (by show 0 + 2 ≤ 300; omega) 1 (by omega) (by omega)) rfl rfl rfl (Nat.le_of_ble_eq_true rfl) (fun h1 p1 => ?_)
  obtain ⟨k1, f1⟩ := p1
  rw [nm_1 (by omega)] at k1
  show jT _ _ 10 _ _ _ _
  refine tl_iconst rfl ?_
  refine tl_istore_n rfl (Nat.le_of_ble_eq_true rfl) rfl ?_
  refine tl_iconst rfl ?_
  refine tl_istore_n rfl (Nat.le_of_ble_eq_true rfl) rfl ?_
  show jT _ _ 14 _ _ _ _
  -- leaf 0 at 14
  refine k_zr_lp l hS2 hD h V kV v64 v2 hV (pk1 V) _ (fun mem hi => ⟨rfl, hi⟩) _ 0 0 [1] h1 _ _ _ (Nat.lt_succ_self _) ⟨Nat.zero_le _, Nat.le_refl _, Nat.le_refl _, k1, fun y y1 y2 => (f1 y y1 y2).trans (hs_O y1), rfl⟩
