/-! packing, of the walked file: runs, the shortest, the whole patch -/
set_option maxRecDepth 20000 in
set_option maxHeartbeats 1000000 in
theorem k_rn_lp (l : Launch) {r2 a2 n2 : Nat} (hS2 : RowS r2 a2 n2) (hD : (r2 < 335 ∨ 338 < r2) ∧ (a2 < 335 ∨ 338 < a2)) (h : jH) (V : List Int) (kV : RL h r2 a2 V) (v64 : V.length ≤ 64) (v2 : V.length ≤ n2) (hV : LB V) (E : List Int) (P : Option Value → jH → Prop) (hP : ∀ mem, (RL mem 337 338 E ∧ ∀ y, y ≠ 337 → y ≠ 338 → mem y = h y) → P none mem) : ∀ (m : Nat) (f : Nat) (i : Nat) (L : List Int) (fu : Nat) (mem : jH), V.length + 1 - i < m → (f ≤ V.length ∧ f < i ∧ i ≤ V.length + 1 ∧ (i = V.length + 1 → f = V.length) ∧ (i ≤ V.length → ∀ q, q < i - f → srP V f q = true) ∧ L.length ≤ 1 + 3 * f ∧ RL mem 337 338 L ∧ (∀ y, y ≠ 337 → y ≠ 338 → mem y = h y) ∧ V.length - f ≤ fu ∧ rnA V fu f L = E) → jT l 56 14 [some (.ref 337), some (.ref r2), some (.int (jI ((f : Int)))), some (.int (jI ((i : Int))))] [] mem P := by
  have hle := hS2.le
  intro m
  induction m with
  | zero => intro f i L fu mem hk; omega
  | succ m ih =>
    intro f i L fu mem hk hi
    obtain ⟨i0, i1, i2, iz, iq, i9, i3, fr, ifu, hE⟩ := hi
    have kvm : RL mem r2 a2 V := kV.of (fr r2 (by omega) (by omega)) (fr a2 (by omega) (by omega))
    refine tl_iload_n rfl rfl ?_
    refine tl_aload_n rfl rfl ?_
    refine tl_geti (c := 8) (k9 := 1) rfl hS2.1 rfl ?_
    rw [kvm.1]
    refine tl_icmp_gt (tgt := 67) rfl rfl ⟨by omega, by omega⟩ ⟨by omega, by omega⟩ (fun c1 => ?_) (fun c1 => ?_)
    · skip
      refine tl_ret rfl ?_
      -- leaf 0 at 67
      rw [rnA_end (by omega)] at hE
      subst hE
      exact hP mem ⟨i3, fr⟩
    · show jT _ _ 22 _ _ _ _
      refine tl_iload_n rfl rfl ?_
      show jT _ _ 23 _ _ _ _
      refine tl_aload_n rfl rfl ?_
      refine tl_geti (c := 8) (k9 := 1) rfl hS2.1 rfl ?_
      rw [kvm.1]
      refine tl_icmp_eq (tgt := 43) rfl rfl ⟨by omega, by omega⟩ ⟨by omega, by omega⟩ (fun c2 => ?_) (fun c2 => ?_)
      · skip
        show jT _ _ 43 _ _ _ _
        -- leaf 1 at 43
        have es : srn V f = i - f := fst_uniq (Nat.zero_le _) (by omega) (fun q _ hq => iq (by omega) q hq) (decide_eq_false (by rw [show f + (i - f) = i by omega]; omega))
        have l1 := (nm_len (v := (srn V f : Int))).2.2 (by omega)
        refine tl_aload_n rfl rfl ?_
        refine tl_iload_n rfl rfl ?_
        refine tl_iload_n rfl rfl ?_
        refine tl_isub rfl ?_
        rw [show (i : Int) - (f : Int) = (srn V f : Int) by omega]
        refine tl_s2v (k_addNum l R337 mem L i3 (by omega) (srn V f : Int) (by omega) (by omega)) rfl rfl rfl (Nat.le_of_ble_eq_true rfl) (fun h4 p4 => ?_)
        obtain ⟨k4, f4⟩ := p4
        have kv4 := kvm.of (f4 r2 (by omega) (by omega)) (f4 a2 (by omega) (by omega))
        refine tl_aload_n rfl rfl ?_
        show jT _ _ 51 _ _ _ _
        refine tl_aload_n rfl rfl ?_
        refine tl_iload_n rfl rfl ?_
        refine tl_v1i (c9 := 8) (c_Row_get l hS2 h4 ((f : Int)) (by rw [kv4.1]; omega) (by rw [kv4.1]; omega) ⟨by omega, by omega⟩) rfl rfl rfl hS2.1 rfl (Nat.le_of_ble_eq_true rfl) (fun z5 h5 p5 => ?_)
        obtain ⟨q5, p5⟩ := p5
        have q5 := q5.symm
        subst q5
        rw [kv4.1, if_pos (by omega), Int.toNat_natCast, kv4.2 f (by omega)] at p5
        have vb5 := hV.gd (i := f) (by omega)
        have va5 := vb5.1
        have vc5 := vb5.2
        refine tl_v1v (c9 := 8) (c_addL l R337 h4 _ k4 (by rw [List.length_append, l1]; omega) z5) rfl rfl rfl rfl rfl (Nat.le_of_ble_eq_true rfl) (fun h6 p6 => ?_)
        obtain ⟨k6, f6⟩ := p6
        refine tl_iload_n rfl rfl ?_
        refine tl_istore_n rfl (Nat.le_of_ble_eq_true rfl) rfl ?_
        refine tl_iinc rfl rfl rfl ?_
        show jT _ _ 64 _ _ _ _
        refine tl_goto (tgt := 14) rfl rfl ?_
        show jT _ _ 14 _ _ _ _
        -- leaf 0 at 14
        refine ih i (i + 1) (rnS V f L) (fu - 1) h6 (by omega) ⟨by omega, by omega, by omega, fun z => by omega, fun z q hq => ?_, by have := (rnS_b (L := L) v64 (show f < V.length by omega) hV).1; omega, ?_, fun y y1 y2 => (f6 y y1 y2).trans ((f4 y y1 y2).trans (fr y y1 y2)), by omega, ?_⟩
        · rw [show q = 0 by omega]; exact decide_eq_true ⟨by omega, rfl⟩
        · rw [rnS, ← p5]; exact k6
        · rw [← hE, show fu = fu - 1 + 1 by omega, rnA, if_pos (by omega), show f + srn V f = i by omega]; rfl
      · show jT _ _ 30 _ _ _ _
        refine tl_aload_n rfl rfl ?_
        refine tl_iload_n rfl rfl ?_
        refine tl_v1i (c9 := 8) (c_Row_get l hS2 mem ((i : Int)) (by rw [kvm.1]; omega) (by rw [kvm.1]; omega) ⟨by omega, by omega⟩) rfl rfl rfl hS2.1 rfl (Nat.le_of_ble_eq_true rfl) (fun z1 h1 p1 => ?_)
        obtain ⟨q1, p1⟩ := p1
        have q1 := q1.symm
        subst q1
        rw [kvm.1, if_pos (by omega), Int.toNat_natCast, kvm.2 i (by omega)] at p1
        have vb1 := hV.gd (i := i) (by omega)
        have va1 := vb1.1
        have vc1 := vb1.2
        refine tl_aload_n rfl rfl ?_
        show jT _ _ 36 _ _ _ _
        refine tl_iload_n rfl rfl ?_
        refine tl_v1i (c9 := 8) (c_Row_get l hS2 mem ((f : Int)) (by rw [kvm.1]; omega) (by rw [kvm.1]; omega) ⟨by omega, by omega⟩) rfl rfl rfl hS2.1 rfl (Nat.le_of_ble_eq_true rfl) (fun z2 h2 p2 => ?_)
        obtain ⟨q2, p2⟩ := p2
        have q2 := q2.symm
        subst q2
        rw [kvm.1, if_pos (by omega), Int.toNat_natCast, kvm.2 f (by omega)] at p2
        have vb2 := hV.gd (i := f) (by omega)
        have va2 := vb2.1
        have vc2 := vb2.2
        refine tl_icmp_eq (tgt := 61) rfl rfl ⟨by omega, by omega⟩ ⟨by omega, by omega⟩ (fun c3 => ?_) (fun c3 => ?_)
        · skip
          refine tl_iinc rfl rfl rfl ?_
          refine tl_goto (tgt := 14) rfl rfl ?_
          show jT _ _ 14 _ _ _ _
          -- leaf 2 at 14
          refine ih f (i + 1) L fu mem (by omega) ⟨by omega, by omega, by omega, fun z => by omega, fun z q hq => ?_, i9, i3, fr, ifu, hE⟩
          by_cases c : q < i - f
          · exact iq (by omega) q c
          · rw [show q = i - f by omega]; refine decide_eq_true ⟨by omega, ?_⟩
            rw [show f + (i - f) = i by omega]; omega
        · show jT _ _ 43 _ _ _ _
          show jT _ _ 43 _ _ _ _
          -- leaf 3 at 43
          have es : srn V f = i - f := fst_uniq (Nat.zero_le _) (by omega) (fun q _ hq => iq (by omega) q hq) (decide_eq_false (by rw [show f + (i - f) = i by omega]; omega))
          have l1 := (nm_len (v := (srn V f : Int))).2.2 (by omega)
          refine tl_aload_n rfl rfl ?_
          refine tl_iload_n rfl rfl ?_
          refine tl_iload_n rfl rfl ?_
          refine tl_isub rfl ?_
          rw [show (i : Int) - (f : Int) = (srn V f : Int) by omega]
          refine tl_s2v (k_addNum l R337 mem L i3 (by omega) (srn V f : Int) (by omega) (by omega)) rfl rfl rfl (Nat.le_of_ble_eq_true rfl) (fun h4 p4 => ?_)
          obtain ⟨k4, f4⟩ := p4
          have kv4 := kvm.of (f4 r2 (by omega) (by omega)) (f4 a2 (by omega) (by omega))
          refine tl_aload_n rfl rfl ?_
          show jT _ _ 51 _ _ _ _
          refine tl_aload_n rfl rfl ?_
          refine tl_iload_n rfl rfl ?_
          refine tl_v1i (c9 := 8) (c_Row_get l hS2 h4 ((f : Int)) (by rw [kv4.1]; omega) (by rw [kv4.1]; omega) ⟨by omega, by omega⟩) rfl rfl rfl hS2.1 rfl (Nat.le_of_ble_eq_true rfl) (fun z5 h5 p5 => ?_)
          obtain ⟨q5, p5⟩ := p5
          have q5 := q5.symm
          subst q5
          rw [kv4.1, if_pos (by omega), Int.toNat_natCast, kv4.2 f (by omega)] at p5
          have vb5 := hV.gd (i := f) (by omega)
          have va5 := vb5.1
          have vc5 := vb5.2
          refine tl_v1v (c9 := 8) (c_addL l R337 h4 _ k4 (by rw [List.length_append, l1]; omega) z5) rfl rfl rfl rfl rfl (Nat.le_of_ble_eq_true rfl) (fun h6 p6 => ?_)
          obtain ⟨k6, f6⟩ := p6
          refine tl_iload_n rfl rfl ?_
          refine tl_istore_n rfl (Nat.le_of_ble_eq_true rfl) rfl ?_
          refine tl_iinc rfl rfl rfl ?_
          show jT _ _ 64 _ _ _ _
          refine tl_goto (tgt := 14) rfl rfl ?_
          show jT _ _ 14 _ _ _ _
          -- leaf 0 at 14
          refine ih i (i + 1) (rnS V f L) (fu - 1) h6 (by omega) ⟨by omega, by omega, by omega, fun z => by omega, fun z q hq => ?_, by have := (rnS_b (L := L) v64 (show f < V.length by omega) hV).1; omega, ?_, fun y y1 y2 => (f6 y y1 y2).trans ((f4 y y1 y2).trans (fr y y1 y2)), by omega, ?_⟩
          · rw [show q = 0 by omega]; exact decide_eq_true ⟨by omega, rfl⟩
          · rw [rnS, ← p5]; exact k6
          · rw [← hE, show fu = fu - 1 + 1 by omega, rnA, if_pos (by omega), show f + srn V f = i by omega]; rfl
set_option maxRecDepth 20000 in
set_option maxHeartbeats 1000000 in
theorem k_runsP (l : Launch) {r2 a2 n2 : Nat} (hS2 : RowS r2 a2 n2) (hD : (r2 < 335 ∨ 338 < r2) ∧ (a2 < 335 ∨ 338 < a2)) (h : jH) (V : List Int) (kV : RL h r2 a2 V) (v64 : V.length ≤ 64) (v2 : V.length ≤ n2) (hV : LB V) : cV l 56 [.ref 337, .ref r2] h (fun h' => RL h' 337 338 (pk2 V) ∧ ∀ y, y ≠ 337 → y ≠ 338 → h' y = h y) := by
  refine cV.of rfl rfl ?_
  refine tl_aload_n rfl rfl ?_
  refine tl_iconst rfl ?_
  refine tl_puti (c := 8) (k9 := 1) rfl rfl rfl rfl ?_
  refine tl_aload_n rfl rfl ?_
  refine tl_iconst rfl ?_
  refine tl_s2v (k_addNum l R337 (hs h 337 1 0) [] ⟨hs_s, fun i hi => absurd hi (by show ¬ i < 0; omega)⟩ (by show 0 + 2 ≤ 300; omega) 2 (by omega) (by omega)) rfl rfl rfl (Nat.le_of_ble_eq_true rfl) (fun h1 p1 => ?_)
  obtain ⟨k1, f1⟩ := p1
  rw [nm_1 (by omega)] at k1
  show jT _ _ 10 _ _ _ _
  refine tl_iconst rfl ?_
  refine tl_istore_n rfl (Nat.le_of_ble_eq_true rfl) rfl ?_
  refine tl_iconst rfl ?_
  refine tl_istore_n rfl (Nat.le_of_ble_eq_true rfl) rfl ?_
  show jT _ _ 14 _ _ _ _
  -- leaf 0 at 14
  refine k_rn_lp l hS2 hD h V kV v64 v2 hV (pk2 V) _ (fun mem hi => ⟨rfl, hi⟩) _ 0 1 [2] V.length h1 (Nat.lt_succ_self _) ⟨Nat.zero_le _, by omega, by omega, fun z => by omega, fun z q hq => ?_, Nat.le_refl _, k1, fun y y1 y2 => (f1 y y1 y2).trans (hs_O y1), by omega, rfl⟩
  rw [show q = 0 by omega]; exact decide_eq_true ⟨by omega, rfl⟩
theorem c_copyL (l : Launch) {r a n r2 a2 n2 : Nat} (hS : RowS r a n) (hS2 : RowS r2 a2 n2) (h : jH) (V : List Int) (kV : RL h r2 a2 V) (v2 : V.length ≤ n2) (vn : V.length ≤ n) : cV l 106 [.ref r, .ref r2] h (fun h' => RL h' r a V ∧ ∀ y, y ≠ r → y ≠ a → h' y = h y) := by
  have hne := hS.ne
  refine (c_Row_copy l hS hS2 h (by rw [kV.1]; omega) (by rw [kV.1]; omega)).mono (fun h' e => ?_)
  rw [kV.1, show min (V.length : Int) (n : Int) = (V.length : Int) by omega, Int.toNat_natCast] at e
  refine ⟨⟨?_, fun i hi => ?_⟩, fun y y1 y2 => ?_⟩
  · rw [e, hw_o hne, hs_s]
  · rw [e, hw_s, va_cpy, if_pos (by omega), ← kV.2 i hi]; exact congrArg (h a2) (by omega)
  · rw [e, hw_o y2, hs_O y1]
set_option maxRecDepth 20000 in
set_option maxHeartbeats 1000000 in
theorem k_keepS (l : Launch) (h : jH) (B C : List Int) (kB : RL h 335 336 B) (kC : RL h 337 338 C) (c3 : C.length ≤ 300) (b3 : B.length ≤ 300) : cV l 53 [.ref 328] h (fun h' => RL h' 335 336 (if C.length < B.length then C else B) ∧ ∀ y, y ≠ 335 → y ≠ 336 → h' y = h y) := by
  refine cV.of rfl rfl ?_
  refine tl_aload_n rfl rfl ?_
  refine tl_getr (c := 4) (k9 := 4) (b := 337) rfl rfl rfl rfl ?_
  refine tl_geti (c := 8) (k9 := 1) rfl rfl rfl ?_
  rw [kC.1]
  refine tl_aload_n rfl rfl ?_
  refine tl_getr (c := 4) (k9 := 3) (b := 335) rfl rfl rfl rfl ?_
  refine tl_geti (c := 8) (k9 := 1) rfl rfl rfl ?_
  rw [kB.1]
  show jT _ _ 14 _ _ _ _
  refine tl_icmp_ge (tgt := 28) rfl rfl ⟨by omega, by omega⟩ ⟨by omega, by omega⟩ (fun c1 => ?_) (fun c1 => ?_)
  · skip
    refine tl_ret rfl ?_
    -- leaf 0 at 28
    refine ⟨rfl, ?_, fun y _ _ => rfl⟩
    rw [if_neg (by omega)]; exact kB
  · show jT _ _ 17 _ _ _ _
    refine tl_aload_n rfl rfl ?_
    refine tl_getr (c := 4) (k9 := 3) (b := 335) rfl rfl rfl rfl ?_
    refine tl_aload_n rfl rfl ?_
    refine tl_getr (c := 4) (k9 := 4) (b := 337) rfl rfl rfl rfl ?_
    refine tl_v1v (c9 := 8) (c_copyL l R335 R337 h C kC c3 c3) rfl rfl rfl rfl rfl (Nat.le_of_ble_eq_true rfl) (fun h1 p1 => ?_)
    show jT _ _ 28 _ _ _ _
    refine tl_ret rfl ?_
    -- leaf 1 at 28
    rw [if_pos (by omega)]; exact ⟨rfl, p1⟩
set_option maxRecDepth 20000 in
set_option maxHeartbeats 1000000 in
theorem k_packRow (l : Launch) {r2 a2 n2 : Nat} (hS2 : RowS r2 a2 n2) (hD : (330 < r2 ∧ r2 < 335) ∧ (330 < a2 ∧ a2 < 335)) (h : jH) (L V : List Int) (kL : RL h 329 330 L) (kV : RL h r2 a2 V) (v64 : V.length ≤ 64) (v2 : V.length ≤ n2) (hV : LB V) (hL : L.length + V.length ≤ 299) : cV l 52 [.ref 328, .ref 329, .ref r2] h (fun h' => RL h' 329 330 (L ++ pkb V) ∧ ∀ y, y < 329 ∨ (330 < y ∧ y < 335) ∨ 338 < y → h' y = h y) := by
  have q0 := pk0_b hV
  have q1 := pk1_b v64 hV
  have q2 := pk2_b v64 hV
  have q3 := pkb_b v64 hV
  refine cV.of rfl rfl ?_
  refine tl_aload_n rfl rfl ?_
  refine tl_getr (c := 4) (k9 := 3) (b := 335) rfl rfl rfl rfl ?_
  refine tl_aload_n rfl rfl ?_
  refine tl_s2v (k_plain l hS2 (by omega) h V kV v64 v2 hV) rfl rfl rfl (Nat.le_of_ble_eq_true rfl) (fun h1 p1 => ?_)
  obtain ⟨k1, f1⟩ := p1
  refine tl_aload_n rfl rfl ?_
  refine tl_getr (c := 4) (k9 := 4) (b := 337) rfl rfl rfl rfl ?_
  show jT _ _ 12 _ _ _ _
  refine tl_aload_n rfl rfl ?_
  refine tl_s2v (k_zeros l hS2 (by omega) h1 V (kV.of (f1 _ (by omega) (by omega)) (f1 _ (by omega) (by omega))) v64 v2 hV) rfl rfl rfl (Nat.le_of_ble_eq_true rfl) (fun h2 p2 => ?_)
  obtain ⟨k2, f2⟩ := p2
  refine tl_aload_n rfl rfl ?_
  refine tl_v0v (c9 := 4) (k_keepS l h2 (pk0 V) (pk1 V) (k1.of (f2 335 (by decide) (by decide)) (f2 336 (by decide) (by decide))) k2 (by omega) (by omega)) rfl rfl rfl rfl rfl (Nat.le_of_ble_eq_true rfl) (fun h3 p3 => ?_)
  obtain ⟨k3, f3⟩ := p3
  rw [show (if (pk1 V).length < (pk0 V).length then pk1 V else pk0 V) = pkA V from rfl] at k3
  refine tl_aload_n rfl rfl ?_
  refine tl_getr (c := 4) (k9 := 4) (b := 337) rfl rfl rfl rfl ?_
  refine tl_aload_n rfl rfl ?_
  show jT _ _ 25 _ _ _ _
  refine tl_s2v (k_runsP l hS2 (by omega) h3 V (kV.of ((f3 _ (by omega) (by omega)).trans ((f2 _ (by omega) (by omega)).trans (f1 _ (by omega) (by omega)))) ((f3 _ (by omega) (by omega)).trans ((f2 _ (by omega) (by omega)).trans (f1 _ (by omega) (by omega))))) v64 v2 hV) rfl rfl rfl (Nat.le_of_ble_eq_true rfl) (fun h4 p4 => ?_)
  obtain ⟨k4, f4⟩ := p4
  refine tl_aload_n rfl rfl ?_
  refine tl_v0v (c9 := 4) (k_keepS l h4 (pkA V) (pk2 V) (k3.of (f4 335 (by decide) (by decide)) (f4 336 (by decide) (by decide))) k4 (by omega) (by omega)) rfl rfl rfl rfl rfl (Nat.le_of_ble_eq_true rfl) (fun h5 p5 => ?_)
  obtain ⟨k5, f5⟩ := p5
  rw [show (if (pk2 V).length < (pkA V).length then pk2 V else pkA V) = pkb V from rfl] at k5
  refine tl_aload_n rfl rfl ?_
  refine tl_aload_n rfl rfl ?_
  refine tl_getr (c := 4) (k9 := 3) (b := 335) rfl rfl rfl rfl ?_
  refine tl_v1v (c9 := 8) (c_addR l R329 R335 (by unfold Dst; omega) h5 L (pkb V) (kL.of ((f5 _ (by omega) (by omega)).trans ((f4 _ (by omega) (by omega)).trans ((f3 _ (by omega) (by omega)).trans ((f2 _ (by omega) (by omega)).trans (f1 _ (by omega) (by omega)))))) ((f5 _ (by omega) (by omega)).trans ((f4 _ (by omega) (by omega)).trans ((f3 _ (by omega) (by omega)).trans ((f2 _ (by omega) (by omega)).trans (f1 _ (by omega) (by omega))))))) k5 (by omega) (by omega)) rfl rfl rfl rfl rfl (Nat.le_of_ble_eq_true rfl) (fun h6 p6 => ?_)
  obtain ⟨k6, f6⟩ := p6
  show jT _ _ 40 _ _ _ _
  refine tl_ret rfl ?_
  -- leaf 0 at 40
  exact ⟨rfl, k6, fun y hy => ((f6 y (by omega) (by omega)).trans ((f5 y (by omega) (by omega)).trans ((f4 y (by omega) (by omega)).trans ((f3 y (by omega) (by omega)).trans ((f2 y (by omega) (by omega)).trans (f1 y (by omega) (by omega)))))))⟩
set_option maxRecDepth 20000 in
set_option maxHeartbeats 1000000 in
theorem k_pack (l : Launch) {o a b : Nat} (hO : OrS o a b) (hQ : OrD o a b) (h g : jH) (n : Nat) (hg : OG h o a b g n) (hv : OGv g n) (os oc nc : Int) (o1 : 0 ≤ os ∧ os ≤ 64) (o2 : 0 ≤ oc ∧ oc < 16384) (o3 : 0 ≤ nc ∧ nc < 16384) : cI l 48 [.ref 328, .ref o, .int (jI os), .int (jI oc), .int (jI nc)] h (fun z h' => z = ((PKL g n os oc nc).length : Int) ∧ RL h' 329 330 (PKL g n os oc nc) ∧ ∀ y, (y < 329 ∨ 338 < y) → h' y = h y) := by
  have n64 := hv.1
  obtain ⟨b1, b2, b3, b4, b5, b6, b7⟩ := pk_b hv o1 o2 o3
  have vb := vls_b hv n (Nat.le_refl _)
  have pb := ptn_b (g := g) n
  have l1 := (nm_len (v := os)).2.1
  have l2 := (nm_len (v := oc)).2.1
  have l3 := (nm_len (v := (n : Int))).2.1
  have l4 := (nm_len (v := nc)).2.1
  have b8 := (pkb_b (V := vls g false n) (by omega) vb.2.1).1
  have b9 := (pkb_b (V := vls g true n) (by omega) vb.2.2).1
  refine cI.of rfl rfl ?_
  refine tl_aload_n rfl rfl ?_
  refine tl_getr (c := 4) (k9 := 0) (b := 329) rfl rfl rfl rfl ?_
  refine tl_iconst rfl ?_
  refine tl_puti (c := 8) (k9 := 1) rfl rfl rfl rfl ?_
  refine tl_aload_n rfl rfl ?_
  refine tl_getr (c := 4) (k9 := 0) (b := 329) rfl rfl rfl rfl ?_
  show jT _ _ 12 _ _ _ _
  refine tl_iload_n rfl rfl ?_
  refine tl_s2v (k_addNum l R329 (hs h 329 1 0) [] ⟨hs_s, fun i hi => absurd hi (by show ¬ i < 0; omega)⟩ (by show 0 + 2 ≤ 300; omega) os (by omega) (by omega)) rfl rfl rfl (Nat.le_of_ble_eq_true rfl) (fun h1 p1 => ?_)
  obtain ⟨k1, f1⟩ := p1
  rw [List.nil_append] at k1
  refine tl_aload_n rfl rfl ?_
  refine tl_getr (c := 4) (k9 := 0) (b := 329) rfl rfl rfl rfl ?_
  refine tl_iload_n rfl rfl ?_
  refine tl_s2v (k_addNum l R329 h1 (nm os) k1 (by (try simp only [List.length_append]); omega) oc (by omega) (by omega)) rfl rfl rfl (Nat.le_of_ble_eq_true rfl) (fun h2 p2 => ?_)
  obtain ⟨k2, f2⟩ := p2
  refine tl_aload_n rfl rfl ?_
  show jT _ _ 25 _ _ _ _
  refine tl_getr (c := 4) (k9 := 0) (b := 329) rfl rfl rfl rfl ?_
  refine tl_aload_n rfl rfl ?_
  refine tl_geti (c := 3) (k9 := 2) rfl hO.1 rfl ?_
  rw [(hg.of ((f2 o (by have := hQ.1; omega) (by have := hQ.1; omega)).trans ((f1 o (by have := hQ.1; omega) (by have := hQ.1; omega)).trans (hs_O (by have := hQ.1; omega)))) ((f2 a (by have := hQ.2.1; omega) (by have := hQ.2.1; omega)).trans ((f1 a (by have := hQ.2.1; omega) (by have := hQ.2.1; omega)).trans (hs_O (by have := hQ.2.1; omega)))) ((f2 b (by have := hQ.2.2; omega) (by have := hQ.2.2; omega)).trans ((f1 b (by have := hQ.2.2; omega) (by have := hQ.2.2; omega)).trans (hs_O (by have := hQ.2.2; omega))))).1]
  refine tl_s2v (k_addNum l R329 h2 (nm os ++ nm oc) k2 (by (try simp only [List.length_append]); omega) (n : Int) (by omega) (by omega)) rfl rfl rfl (Nat.le_of_ble_eq_true rfl) (fun h3 p3 => ?_)
  obtain ⟨k3, f3⟩ := p3
  refine tl_aload_n rfl rfl ?_
  refine tl_getr (c := 4) (k9 := 0) (b := 329) rfl rfl rfl rfl ?_
  refine tl_iload rfl rfl ?_
  show jT _ _ 41 _ _ _ _
  refine tl_s2v (k_addNum l R329 h3 (nm os ++ nm oc ++ nm (n : Int)) k3 (by (try simp only [List.length_append]); omega) nc (by omega) (by omega)) rfl rfl rfl (Nat.le_of_ble_eq_true rfl) (fun h4 p4 => ?_)
  obtain ⟨k4, f4⟩ := p4
  refine tl_aload_n rfl rfl ?_
  refine tl_getr (c := 4) (k9 := 0) (b := 329) rfl rfl rfl rfl ?_
  refine tl_aload_n rfl rfl ?_
  refine tl_v0i (c9 := 3) (k_countP l hO h4 g n (hg.of ((f4 o (by have := hQ.1; omega) (by have := hQ.1; omega)).trans ((f3 o (by have := hQ.1; omega) (by have := hQ.1; omega)).trans ((f2 o (by have := hQ.1; omega) (by have := hQ.1; omega)).trans ((f1 o (by have := hQ.1; omega) (by have := hQ.1; omega)).trans (hs_O (by have := hQ.1; omega)))))) ((f4 a (by have := hQ.2.1; omega) (by have := hQ.2.1; omega)).trans ((f3 a (by have := hQ.2.1; omega) (by have := hQ.2.1; omega)).trans ((f2 a (by have := hQ.2.1; omega) (by have := hQ.2.1; omega)).trans ((f1 a (by have := hQ.2.1; omega) (by have := hQ.2.1; omega)).trans (hs_O (by have := hQ.2.1; omega)))))) ((f4 b (by have := hQ.2.2; omega) (by have := hQ.2.2; omega)).trans ((f3 b (by have := hQ.2.2; omega) (by have := hQ.2.2; omega)).trans ((f2 b (by have := hQ.2.2; omega) (by have := hQ.2.2; omega)).trans ((f1 b (by have := hQ.2.2; omega) (by have := hQ.2.2; omega)).trans (hs_O (by have := hQ.2.2; omega))))))) hv) rfl rfl rfl hO.1 rfl (Nat.le_of_ble_eq_true rfl) (fun z15 h15 p15 => ?_)
  obtain ⟨q15, rfl⟩ := p15
  have q15 := q15.symm
  subst q15
  refine tl_s2v (k_addNum l R329 h4 (nm os ++ nm oc ++ nm (n : Int) ++ nm nc) k4 (by (try simp only [List.length_append]); omega) (ptn g n) (by omega) (by omega)) rfl rfl rfl (Nat.le_of_ble_eq_true rfl) (fun h5 p5 => ?_)
  obtain ⟨k5, f5⟩ := p5
  refine tl_aload_n rfl rfl ?_
  show jT _ _ 56 _ _ _ _
  refine tl_getr (c := 4) (k9 := 0) (b := 329) rfl rfl rfl rfl ?_
  refine tl_aload_n rfl rfl ?_
  refine tl_s2v (k_packParts l hO hQ h5 g n (hg.of ((f5 o (by have := hQ.1; omega) (by have := hQ.1; omega)).trans ((f4 o (by have := hQ.1; omega) (by have := hQ.1; omega)).trans ((f3 o (by have := hQ.1; omega) (by have := hQ.1; omega)).trans ((f2 o (by have := hQ.1; omega) (by have := hQ.1; omega)).trans ((f1 o (by have := hQ.1; omega) (by have := hQ.1; omega)).trans (hs_O (by have := hQ.1; omega))))))) ((f5 a (by have := hQ.2.1; omega) (by have := hQ.2.1; omega)).trans ((f4 a (by have := hQ.2.1; omega) (by have := hQ.2.1; omega)).trans ((f3 a (by have := hQ.2.1; omega) (by have := hQ.2.1; omega)).trans ((f2 a (by have := hQ.2.1; omega) (by have := hQ.2.1; omega)).trans ((f1 a (by have := hQ.2.1; omega) (by have := hQ.2.1; omega)).trans (hs_O (by have := hQ.2.1; omega))))))) ((f5 b (by have := hQ.2.2; omega) (by have := hQ.2.2; omega)).trans ((f4 b (by have := hQ.2.2; omega) (by have := hQ.2.2; omega)).trans ((f3 b (by have := hQ.2.2; omega) (by have := hQ.2.2; omega)).trans ((f2 b (by have := hQ.2.2; omega) (by have := hQ.2.2; omega)).trans ((f1 b (by have := hQ.2.2; omega) (by have := hQ.2.2; omega)).trans (hs_O (by have := hQ.2.2; omega)))))))) hv (pkh g n os oc nc) b1.1 k5) rfl rfl rfl (Nat.le_of_ble_eq_true rfl) (fun h6 p6 => ?_)
  obtain ⟨k6, f6⟩ := p6
  refine tl_aload_n rfl rfl ?_
  refine tl_aload_n rfl rfl ?_
  refine tl_v1v (c9 := 4) (k_split l hO hQ h6 g n (hg.of ((f6 o (by have := hQ.1; omega) (by have := hQ.1; omega)).trans ((f5 o (by have := hQ.1; omega) (by have := hQ.1; omega)).trans ((f4 o (by have := hQ.1; omega) (by have := hQ.1; omega)).trans ((f3 o (by have := hQ.1; omega) (by have := hQ.1; omega)).trans ((f2 o (by have := hQ.1; omega) (by have := hQ.1; omega)).trans ((f1 o (by have := hQ.1; omega) (by have := hQ.1; omega)).trans (hs_O (by have := hQ.1; omega)))))))) ((f6 a (by have := hQ.2.1; omega) (by have := hQ.2.1; omega)).trans ((f5 a (by have := hQ.2.1; omega) (by have := hQ.2.1; omega)).trans ((f4 a (by have := hQ.2.1; omega) (by have := hQ.2.1; omega)).trans ((f3 a (by have := hQ.2.1; omega) (by have := hQ.2.1; omega)).trans ((f2 a (by have := hQ.2.1; omega) (by have := hQ.2.1; omega)).trans ((f1 a (by have := hQ.2.1; omega) (by have := hQ.2.1; omega)).trans (hs_O (by have := hQ.2.1; omega)))))))) ((f6 b (by have := hQ.2.2; omega) (by have := hQ.2.2; omega)).trans ((f5 b (by have := hQ.2.2; omega) (by have := hQ.2.2; omega)).trans ((f4 b (by have := hQ.2.2; omega) (by have := hQ.2.2; omega)).trans ((f3 b (by have := hQ.2.2; omega) (by have := hQ.2.2; omega)).trans ((f2 b (by have := hQ.2.2; omega) (by have := hQ.2.2; omega)).trans ((f1 b (by have := hQ.2.2; omega) (by have := hQ.2.2; omega)).trans (hs_O (by have := hQ.2.2; omega))))))))) hv) rfl rfl rfl rfl rfl (Nat.le_of_ble_eq_true rfl) (fun h7 p7 => ?_)
  obtain ⟨k7, k8, f7⟩ := p7
  refine tl_aload_n rfl rfl ?_
  show jT _ _ 69 _ _ _ _
  refine tl_aload_n rfl rfl ?_
  refine tl_getr (c := 4) (k9 := 0) (b := 329) rfl rfl rfl rfl ?_
  refine tl_aload_n rfl rfl ?_
  refine tl_getr (c := 4) (k9 := 1) (b := 331) rfl rfl rfl rfl ?_
  refine tl_v2v (c9 := 4) (k_packRow l R331 (by omega) h7 (pkp g n os oc nc) (vls g false n) (k6.of (f7 329 (by omega)) (f7 330 (by omega))) k7 (by omega) (by omega) vb.2.1 (by omega)) rfl rfl rfl rfl rfl (Nat.le_of_ble_eq_true rfl) (fun h8 p8 => ?_)
  obtain ⟨k9, f8⟩ := p8
  refine tl_aload_n rfl rfl ?_
  refine tl_aload_n rfl rfl ?_
  show jT _ _ 82 _ _ _ _
  refine tl_getr (c := 4) (k9 := 0) (b := 329) rfl rfl rfl rfl ?_
  refine tl_aload_n rfl rfl ?_
  refine tl_getr (c := 4) (k9 := 2) (b := 333) rfl rfl rfl rfl ?_
  refine tl_v2v (c9 := 4) (k_packRow l R333 (by omega) h8 (pkp g n os oc nc ++ pkb (vls g false n)) (vls g true n) k9 (k8.of (f8 333 (by omega)) (f8 334 (by omega))) (by omega) (by omega) vb.2.2 (by rw [List.length_append]; omega)) rfl rfl rfl rfl rfl (Nat.le_of_ble_eq_true rfl) (fun h9 p9 => ?_)
  obtain ⟨k10, f9⟩ := p9
  change RL h9 329 330 (pkr g n os oc nc) at k10
  refine tl_aload_n rfl rfl ?_
  refine tl_getr (c := 4) (k9 := 0) (b := 329) rfl rfl rfl rfl ?_
  refine tl_v0i (c9 := 8) (c_Row_checkAll l R329 h9 (by rw [k10.1]; omega) (by rw [k10.1]; omega) (fun i hi => by rw [k10.1] at hi; rw [k10.2 i (by omega)]; have := b4.gd (i := i) (by omega); exact ⟨this.1, by have := this.2; omega⟩)) rfl rfl rfl rfl rfl (Nat.le_of_ble_eq_true rfl) (fun z11 h11 p11 => ?_)
  obtain ⟨q11, p11⟩ := p11
  have q11 := q11.symm
  subst q11
  rw [k10.1, Int.toNat_natCast, ckF_congr _ (fun i hi => k10.2 i hi)] at p11
  have p12 : z11 = ckL (pkr g n os oc nc) := p11
  have cb := ckF_b (fun i => (pkr g n os oc nc).getD i 0) (pkr g n os oc nc).length
  have cb2 : 0 ≤ ckL (pkr g n os oc nc) ∧ ckL (pkr g n os oc nc) < 257 := cb
  clear p11
  subst p12
  show jT _ _ 99 _ _ _ _
  refine tl_istore rfl (Nat.le_of_ble_eq_true rfl) rfl ?_
  refine tl_aload_n rfl rfl ?_
  refine tl_getr (c := 4) (k9 := 0) (b := 329) rfl rfl rfl rfl ?_
  refine tl_iload rfl rfl ?_
  refine tl_sipush rfl rfl ?_
  refine tl_idiv rfl (by omega) (by omega) (by omega) (by omega) ?_
  refine tl_v1v (c9 := 8) (c_addL l R329 h9 _ k10 (by omega) (ckL (pkr g n os oc nc) / 256)) rfl rfl rfl rfl rfl (Nat.le_of_ble_eq_true rfl) (fun h13 p13 => ?_)
  obtain ⟨k13, f13⟩ := p13
  show jT _ _ 114 _ _ _ _
  refine tl_aload_n rfl rfl ?_
  refine tl_getr (c := 4) (k9 := 0) (b := 329) rfl rfl rfl rfl ?_
  refine tl_iload rfl rfl ?_
  refine tl_sipush rfl rfl ?_
  refine tl_irem rfl (by omega) (by omega) (by omega) (by omega) ?_
  refine tl_v1v (c9 := 8) (c_addL l R329 h13 _ k13 (by rw [List.length_append]; show _ + 1 < 300; omega) (ckL (pkr g n os oc nc) % 256)) rfl rfl rfl rfl rfl (Nat.le_of_ble_eq_true rfl) (fun h14 p14 => ?_)
  obtain ⟨k14, f14⟩ := p14
  change RL h14 329 330 (PKL g n os oc nc) at k14
  refine tl_aload_n rfl rfl ?_
  show jT _ _ 128 _ _ _ _
  refine tl_getr (c := 4) (k9 := 0) (b := 329) rfl rfl rfl rfl ?_
  refine tl_geti (c := 8) (k9 := 1) rfl rfl rfl ?_
  rw [k14.1]
  refine tl_iret rfl ?_
  -- leaf 0 at 134
  refine ⟨_, rfl, rfl, k14, fun y hy => ?_⟩
  rw [f14 y (by omega) (by omega), f13 y (by omega) (by omega), f9 y (by omega), f8 y (by omega), f7 y (by omega), f6 y (by omega) (by omega), f5 y (by omega) (by omega), f4 y (by omega) (by omega), f3 y (by omega) (by omega), f2 y (by omega) (by omega), f1 y (by omega) (by omega), hs_O (by omega)]
