/-! packing, of the walked file: parts, values, rows -/
theorem R329 : RowS 329 330 300 := ⟨rfl, rfl, rfl, rfl⟩
theorem R331 : RowS 331 332 64 := ⟨rfl, rfl, rfl, rfl⟩
theorem R333 : RowS 333 334 64 := ⟨rfl, rfl, rfl, rfl⟩
theorem R335 : RowS 335 336 300 := ⟨rfl, rfl, rfl, rfl⟩
theorem R337 : RowS 337 338 300 := ⟨rfl, rfl, rfl, rfl⟩
/-- Origins lie apart from the packer's rows -/
theorem jT.ls {l : Launch} {j pc : Nat} {L L' : jLo} {st st' : List Value} {h : jH} {P : Option Value → jH → Prop} (e : L = L') (e2 : st = st') (k : jT l j pc L' st' h P) : jT l j pc L st h P := by rw [e, e2]; exact k
def OrD (o a b : Nat) : Prop := (o < 329 ∨ 338 < o) ∧ (a < 329 ∨ 338 < a) ∧ (b < 329 ∨ 338 < b)
set_option maxRecDepth 20000 in
set_option maxHeartbeats 1000000 in
theorem k_packP_t (l : Launch) {o a b : Nat} (hO : OrS o a b) (hQ : OrD o a b) (g : jH) (n : Nat) (hv : OGv g n) (L0 : List Int) (hL : L0.length ≤ 7) (mem : jH) (hgm : OG mem o a b g n) (k : Nat) (hk : k < n) (e1 : bgn g k = true) (i1 : RL mem 329 330 (ppF g n L0 k).1) (P : Option Value → jH → Prop) (hx : ∀ m2 y4 y5, RL m2 329 330 (ppF g n L0 (k + 1)).1 → (∀ y, y ≠ 329 → y ≠ 330 → m2 y = mem y) → jT l 50 4 [some (.ref 329), some (.ref o), some (.int (jI ((ppF g n L0 (k + 1)).2))), some (.int (jI ((k : Int) + 1))), y4, y5] [] m2 P) : jT l 50 65 [some (.ref 329), some (.ref o), some (.int (jI ((ppF g n L0 k).2))), some (.int (jI ((k : Int)))), some (.int (jI (((cps g n k) : Int)))), some (.int (jI ((if (cps g n k) = 0 then 0 else g 0 k - (ppF g n L0 k).2))))] [.int (jI (zz (if (cps g n k) = 0 then 0 else g 0 k - (ppF g n L0 k).2))), .ref 329] mem P := by
  have n64 := hv.1
  have cb := cps_b hv hk
  have xb := (exs_s (g := g) (n := n) (i := k + cps g n k) n64 cb.2.1).1
  have gb := (hv.2 k hk).1
  obtain ⟨pb1, pb2, pb3⟩ := ppF_b (L0 := L0) hv k (by omega)
  have pn := ptn_b (g := g) k
  have zb9 : 0 ≤ zz (if (cps g n k) = 0 then 0 else g 0 k - (ppF g n L0 k).2) ∧ zz (if (cps g n k) = 0 then 0 else g 0 k - (ppF g n L0 k).2) < 128 := by
    rw [zz]
    by_cases z : (cps g n k) = 0
    · rw [if_pos z]; omega
    · rw [if_neg z]; have := cb.2.2.1 z; split <;> omega
  have l1 := (nm_len (v := zz (if (cps g n k) = 0 then 0 else g 0 k - (ppF g n L0 k).2))).2.2 zb9.2
  have l2 := (nm_len (v := ((cps g n k) : Int))).2.2 (by omega)
  refine tl_s2v (k_addNum l R329 mem (ppF g n L0 k).1 i1 (by omega) (zz (if (cps g n k) = 0 then 0 else g 0 k - (ppF g n L0 k).2)) (by omega) (by omega)) rfl rfl rfl (Nat.le_of_ble_eq_true rfl) (fun h1 p1 => ?_)
  obtain ⟨k1, f1⟩ := p1
  refine tl_aload_n rfl rfl ?_
  refine tl_iload rfl rfl ?_
  refine tl_s2v (k_addNum l R329 h1 ((ppF g n L0 k).1 ++ nm (zz (if (cps g n k) = 0 then 0 else g 0 k - (ppF g n L0 k).2))) k1 (by rw [List.length_append, l1]; omega) ((cps g n k) : Int) (by omega) (by omega)) rfl rfl rfl (Nat.le_of_ble_eq_true rfl) (fun h2 p2 => ?_)
  obtain ⟨k2, f2⟩ := p2
  refine tl_aload_n rfl rfl ?_
  refine tl_aload_n rfl rfl ?_
  show jT _ _ 76 _ _ _ _
  refine tl_iload_n rfl rfl ?_
  refine tl_iload rfl rfl ?_
  refine tl_iadd rfl ?_
  rw [show (k : Int) + ((cps g n k) : Int) = ((k + (cps g n k) : Nat) : Int) by omega]
  refine tl_v1i (c9 := 3) (k_extraS l hO h2 g n (hgm.of ((f2 o (by have := hQ.1; omega) (by have := hQ.1; omega)).trans (f1 o (by have := hQ.1; omega) (by have := hQ.1; omega))) ((f2 a (by have := hQ.2.1; omega) (by have := hQ.2.1; omega)).trans (f1 a (by have := hQ.2.1; omega) (by have := hQ.2.1; omega))) ((f2 b (by have := hQ.2.2; omega) (by have := hQ.2.2; omega)).trans (f1 b (by have := hQ.2.2; omega) (by have := hQ.2.2; omega)))) hv (k + (cps g n k)) (by omega)) rfl rfl rfl hO.1 rfl (Nat.le_of_ble_eq_true rfl) (fun z3 h3 p3 => ?_)
  obtain ⟨q3, rfl⟩ := p3
  have q3 := q3.symm
  subst q3
  refine tl_s2v (k_addNum l R329 h2 ((ppF g n L0 k).1 ++ nm (zz (if (cps g n k) = 0 then 0 else g 0 k - (ppF g n L0 k).2)) ++ nm ((cps g n k) : Int)) k2 (by rw [List.length_append, List.length_append, l1, l2]; omega) ((exs g n (k + cps g n k)) : Int) (by omega) (by omega)) rfl rfl rfl (Nat.le_of_ble_eq_true rfl) (fun h4 p4 => ?_)
  obtain ⟨k4, f4⟩ := p4
  refine tl_iload rfl rfl ?_
  refine tl_if_ne (tgt := 95) rfl rfl ⟨by omega, by omega⟩ (fun c1 => ?_) (fun c1 => ?_)
  · skip
    show jT _ _ 95 _ _ _ _
    refine tl_aload_n rfl rfl ?_
    refine tl_iload_n rfl rfl ?_
    refine tl_v1i (c9 := 3) (k_plA l hO h4 g n (hgm.of ((f4 o (by have := hQ.1; omega) (by have := hQ.1; omega)).trans ((f2 o (by have := hQ.1; omega) (by have := hQ.1; omega)).trans (f1 o (by have := hQ.1; omega) (by have := hQ.1; omega)))) ((f4 a (by have := hQ.2.1; omega) (by have := hQ.2.1; omega)).trans ((f2 a (by have := hQ.2.1; omega) (by have := hQ.2.1; omega)).trans (f1 a (by have := hQ.2.1; omega) (by have := hQ.2.1; omega)))) ((f4 b (by have := hQ.2.2; omega) (by have := hQ.2.2; omega)).trans ((f2 b (by have := hQ.2.2; omega) (by have := hQ.2.2; omega)).trans (f1 b (by have := hQ.2.2; omega) (by have := hQ.2.2; omega))))) hv k (by omega)) rfl rfl rfl hO.1 rfl (Nat.le_of_ble_eq_true rfl) (fun z5 h5 p5 => ?_)
    obtain ⟨q5, rfl⟩ := p5
    have q5 := q5.symm
    subst q5
    refine tl_iload rfl rfl ?_
    refine tl_iadd rfl ?_
    refine tl_istore_n rfl (Nat.le_of_ble_eq_true rfl) rfl ?_
    refine tl_iinc rfl rfl rfl ?_
    show jT _ _ 107 _ _ _ _
    refine tl_goto (tgt := 4) rfl rfl ?_
    show jT _ _ 4 _ _ _ _
    -- leaf 0 at 4
    have st := hx h4 (some (.int (jI (((cps g n k) : Int))))) (some (.int (jI ((if (cps g n k) = 0 then 0 else g 0 k - (ppF g n L0 k).2))))) (by rw [ppF_t e1]; exact k4) (fun y y1 y2 => (f4 y y1 y2).trans ((f2 y y1 y2).trans (f1 y y1 y2)))
    rw [ppF_t e1] at st
    refine jT.loc ?_ st
    first
      | (rw [show (if (cps g n k) = 0 then (0 : Int) else g 0 k + ((cps g n k) : Int)) = 0 by rw [if_pos (by omega)]]; rfl)
      | (rw [show (if (cps g n k) = 0 then (0 : Int) else g 0 k + ((cps g n k) : Int)) = g 0 k + ((cps g n k) : Int) by rw [if_neg (by omega)]]; rfl)
  · show jT _ _ 91 _ _ _ _
    refine tl_iconst rfl ?_
    refine tl_goto (tgt := 103) rfl rfl ?_
    refine tl_istore_n rfl (Nat.le_of_ble_eq_true rfl) rfl ?_
    refine tl_iinc rfl rfl rfl ?_
    refine tl_goto (tgt := 4) rfl rfl ?_
    show jT _ _ 4 _ _ _ _
    -- leaf 1 at 4
    have st := hx h4 (some (.int (jI (((cps g n k) : Int))))) (some (.int (jI ((if (cps g n k) = 0 then 0 else g 0 k - (ppF g n L0 k).2))))) (by rw [ppF_t e1]; exact k4) (fun y y1 y2 => (f4 y y1 y2).trans ((f2 y y1 y2).trans (f1 y y1 y2)))
    rw [ppF_t e1] at st
    refine jT.loc ?_ st
    first
      | (rw [show (if (cps g n k) = 0 then (0 : Int) else g 0 k + ((cps g n k) : Int)) = 0 by rw [if_pos (by omega)]]; rfl)
      | (rw [show (if (cps g n k) = 0 then (0 : Int) else g 0 k + ((cps g n k) : Int)) = g 0 k + ((cps g n k) : Int) by rw [if_neg (by omega)]]; rfl)
set_option maxRecDepth 20000 in
set_option maxHeartbeats 1000000 in
theorem k_packP_lp (l : Launch) {o a b : Nat} (hO : OrS o a b) (hQ : OrD o a b) (h g : jH) (n : Nat) (hg : OG h o a b g n) (hv : OGv g n) (L0 : List Int) (hL : L0.length ≤ 7) (P : Option Value → jH → Prop) (hP : ∀ mem, (RL mem 329 330 (ppF g n L0 n).1 ∧ ∀ y, y ≠ 329 → y ≠ 330 → mem y = h y) → P none mem) : ∀ (m : Nat) (k : Nat) (mem : jH) (y4 : Option Value) (y5 : Option Value), n - k < m → (k ≤ n ∧ RL mem 329 330 (ppF g n L0 k).1 ∧ ∀ y, y ≠ 329 → y ≠ 330 → mem y = h y) → jT l 50 4 [some (.ref 329), some (.ref o), some (.int (jI ((ppF g n L0 k).2))), some (.int (jI ((k : Int)))), y4, y5] [] mem P := by
  have n64 := hv.1
  intro m
  induction m with
  | zero => intro k mem y4 y5 hk; omega
  | succ m ih =>
    intro k mem y4 y5 hk hi
    obtain ⟨i0, i1, fr⟩ := hi
    have hgm := (hg.of (fr o (by have := hQ.1; omega) (by have := hQ.1; omega)) (fr a (by have := hQ.2.1; omega) (by have := hQ.2.1; omega)) (fr b (by have := hQ.2.2; omega) (by have := hQ.2.2; omega)))
    obtain ⟨pb1, pb2, pb3⟩ := ppF_b (L0 := L0) hv k i0
    have pn := ptn_b (g := g) k
    refine tl_iload_n rfl rfl ?_
    refine tl_aload_n rfl rfl ?_
    refine tl_geti (c := 3) (k9 := 2) rfl hO.1 rfl ?_
    rw [hgm.1]
    refine tl_icmp_ge (tgt := 110) rfl rfl ⟨by omega, by omega⟩ ⟨by omega, by omega⟩ (fun c1 => ?_) (fun c1 => ?_)
    · skip
      refine tl_ret rfl ?_
      -- leaf 0 at 110
      have e : k = n := by omega
      rw [e] at i1
      exact hP mem ⟨i1, fr⟩
    · show jT _ _ 12 _ _ _ _
      refine tl_aload_n rfl rfl ?_
      show jT _ _ 13 _ _ _ _
      refine tl_iload_n rfl rfl ?_
      refine tl_v1i (c9 := 3) (k_startsP l hO mem g n hgm hv k (by omega)) rfl rfl rfl hO.1 rfl (Nat.le_of_ble_eq_true rfl) (fun z1 h1 p1 => ?_)
      obtain ⟨q1, rfl⟩ := p1
      have q1 := q1.symm
      subst q1
      have b1 := zb_b (bgn g k)
      refine tl_if_eq (tgt := 104) rfl rfl ⟨by omega, by omega⟩ (fun c2 => ?_) (fun c2 => ?_)
      · skip
        have e1 := zb0 c2
        refine tl_iinc rfl rfl rfl ?_
        refine tl_goto (tgt := 4) rfl rfl ?_
        show jT _ _ 4 _ _ _ _
        -- leaf 1 at 4
        refine jT.loc ?_ (ih (k + 1) mem y4 y5 (by omega) ⟨by omega, by rw [ppF_f e1]; exact i1, fr⟩)
        rw [ppF_f e1]
        rfl
      · show jT _ _ 20 _ _ _ _
        have e1 := zb1' c2
        refine tl_aload_n rfl rfl ?_
        refine tl_iload_n rfl rfl ?_
        show jT _ _ 22 _ _ _ _
        refine tl_v1i (c9 := 3) (k_copyS l hO mem g n hgm hv k (by omega)) rfl rfl rfl hO.1 rfl (Nat.le_of_ble_eq_true rfl) (fun z2 h2 p2 => ?_)
        obtain ⟨q2, rfl⟩ := p2
        have q2 := q2.symm
        subst q2
        have cb := cps_b hv (show k < n by omega)
        have gb := (hv.2 k (by omega)).1
        have tt := k_packP_t l hO hQ g n hv L0 hL mem hgm k (by omega) e1 i1 P (fun m2 y4 y5 q1 q2 => ih (k + 1) m2 y4 y5 (by omega) ⟨by omega, q1, fun y y1 y2 => (q2 y y1 y2).trans (fr y y1 y2)⟩)
        refine tl_istore rfl (Nat.le_of_ble_eq_true rfl) rfl ?_
        refine tl_iload rfl rfl ?_
        refine tl_if_ne (tgt := 36) rfl rfl ⟨by omega, by omega⟩ (fun c3 => ?_) (fun c3 => ?_)
        · skip
          refine tl_aload_n rfl rfl ?_
          refine tl_iload_n rfl rfl ?_
          refine tl_v1i (c9 := 3) (k_plA l hO mem g n hgm hv k (by omega)) rfl rfl rfl hO.1 rfl (Nat.le_of_ble_eq_true rfl) (fun z3 h3 p3 => ?_)
          obtain ⟨q3, rfl⟩ := p3
          have q3 := q3.symm
          subst q3
          show jT _ _ 41 _ _ _ _
          refine tl_iload_n rfl rfl ?_
          refine tl_isub rfl ?_
          refine tl_istore rfl (Nat.le_of_ble_eq_true rfl) rfl ?_
          refine tl_aload_n rfl rfl ?_
          refine tl_iload rfl rfl ?_
          refine tl_if_ge (tgt := 61) rfl rfl ⟨by omega, by omega⟩ (fun c4 => ?_) (fun c4 => ?_)
          · skip
            refine tl_iconst rfl ?_
            show jT _ _ 62 _ _ _ _
            refine tl_iload rfl rfl ?_
            refine tl_imul rfl ?_
            show jT _ _ 65 _ _ _ _
            -- leaf 2 at 65
            first
              | (exfalso; omega)
              | (have es : (if (cps g n k) = 0 then 0 else g 0 k - (ppF g n L0 k).2) = 0 := by rw [if_pos (by omega)]
                 have ez : zz (if (cps g n k) = 0 then 0 else g 0 k - (ppF g n L0 k).2) = 2 * 0 := by rw [es, zz, if_neg (by omega)]
                 rw [ez, es] at tt
                 exact tt)
              | (have es : (if (cps g n k) = 0 then 0 else g 0 k - (ppF g n L0 k).2) = g 0 k - (ppF g n L0 k).2 := by rw [if_neg (by omega)]
                 have ez : zz (if (cps g n k) = 0 then 0 else g 0 k - (ppF g n L0 k).2) = -2 * (g 0 k - (ppF g n L0 k).2) - 1 := by rw [es, zz, if_pos (by omega)]
                 rw [ez, es] at tt
                 exact tt)
              | (have es : (if (cps g n k) = 0 then 0 else g 0 k - (ppF g n L0 k).2) = g 0 k - (ppF g n L0 k).2 := by rw [if_neg (by omega)]
                 have ez : zz (if (cps g n k) = 0 then 0 else g 0 k - (ppF g n L0 k).2) = 2 * (g 0 k - (ppF g n L0 k).2) := by rw [es, zz, if_neg (by omega)]
                 rw [ez, es] at tt
                 exact tt)
          · show jT _ _ 51 _ _ _ _
            refine tl_bipush rfl rfl ?_
            refine tl_iload rfl rfl ?_
            refine tl_imul rfl ?_
            refine tl_iconst rfl ?_
            refine tl_isub rfl ?_
            show jT _ _ 58 _ _ _ _
            refine tl_goto (tgt := 65) rfl rfl ?_
            show jT _ _ 65 _ _ _ _
            -- leaf 3 at 65
            first
              | (exfalso; omega)
              | (have es : (if (cps g n k) = 0 then 0 else g 0 k - (ppF g n L0 k).2) = 0 := by rw [if_pos (by omega)]
                 have ez : zz (if (cps g n k) = 0 then 0 else g 0 k - (ppF g n L0 k).2) = 2 * 0 := by rw [es, zz, if_neg (by omega)]
                 rw [ez, es] at tt
                 exact tt)
              | (have es : (if (cps g n k) = 0 then 0 else g 0 k - (ppF g n L0 k).2) = g 0 k - (ppF g n L0 k).2 := by rw [if_neg (by omega)]
                 have ez : zz (if (cps g n k) = 0 then 0 else g 0 k - (ppF g n L0 k).2) = -2 * (g 0 k - (ppF g n L0 k).2) - 1 := by rw [es, zz, if_pos (by omega)]
                 rw [ez, es] at tt
                 exact tt)
              | (have es : (if (cps g n k) = 0 then 0 else g 0 k - (ppF g n L0 k).2) = g 0 k - (ppF g n L0 k).2 := by rw [if_neg (by omega)]
                 have ez : zz (if (cps g n k) = 0 then 0 else g 0 k - (ppF g n L0 k).2) = 2 * (g 0 k - (ppF g n L0 k).2) := by rw [es, zz, if_neg (by omega)]
                 rw [ez, es] at tt
                 exact tt)
        · show jT _ _ 32 _ _ _ _
          refine tl_iconst rfl ?_
          refine tl_goto (tgt := 43) rfl rfl ?_
          refine tl_istore rfl (Nat.le_of_ble_eq_true rfl) rfl ?_
          refine tl_aload_n rfl rfl ?_
          refine tl_iload rfl rfl ?_
          refine tl_if_ge (tgt := 61) rfl rfl ⟨by omega, by omega⟩ (fun c5 => ?_) (fun c5 => ?_)
          · skip
            show jT _ _ 61 _ _ _ _
            refine tl_iconst rfl ?_
            refine tl_iload rfl rfl ?_
            refine tl_imul rfl ?_
            show jT _ _ 65 _ _ _ _
            -- leaf 4 at 65
            first
              | (exfalso; omega)
              | (have es : (if (cps g n k) = 0 then 0 else g 0 k - (ppF g n L0 k).2) = 0 := by rw [if_pos (by omega)]
                 have ez : zz (if (cps g n k) = 0 then 0 else g 0 k - (ppF g n L0 k).2) = 2 * 0 := by rw [es, zz, if_neg (by omega)]
                 rw [ez, es] at tt
                 exact tt)
              | (have es : (if (cps g n k) = 0 then 0 else g 0 k - (ppF g n L0 k).2) = g 0 k - (ppF g n L0 k).2 := by rw [if_neg (by omega)]
                 have ez : zz (if (cps g n k) = 0 then 0 else g 0 k - (ppF g n L0 k).2) = -2 * (g 0 k - (ppF g n L0 k).2) - 1 := by rw [es, zz, if_pos (by omega)]
                 rw [ez, es] at tt
                 exact tt)
              | (have es : (if (cps g n k) = 0 then 0 else g 0 k - (ppF g n L0 k).2) = g 0 k - (ppF g n L0 k).2 := by rw [if_neg (by omega)]
                 have ez : zz (if (cps g n k) = 0 then 0 else g 0 k - (ppF g n L0 k).2) = 2 * (g 0 k - (ppF g n L0 k).2) := by rw [es, zz, if_neg (by omega)]
                 rw [ez, es] at tt
                 exact tt)
          · show jT _ _ 51 _ _ _ _
            exfalso; omega
set_option maxRecDepth 20000 in
set_option maxHeartbeats 1000000 in
theorem k_packParts (l : Launch) {o a b : Nat} (hO : OrS o a b) (hQ : OrD o a b) (h g : jH) (n : Nat) (hg : OG h o a b g n) (hv : OGv g n) (L0 : List Int) (hL : L0.length ≤ 7) (k0 : RL h 329 330 L0) : cV l 50 [.ref 329, .ref o] h (fun h' => RL h' 329 330 (ppF g n L0 n).1 ∧ ∀ y, y ≠ 329 → y ≠ 330 → h' y = h y) := by
  refine cV.of rfl rfl ?_
  refine tl_iconst rfl ?_
  refine tl_istore_n rfl (Nat.le_of_ble_eq_true rfl) rfl ?_
  refine tl_iconst rfl ?_
  refine tl_istore_n rfl (Nat.le_of_ble_eq_true rfl) rfl ?_
  show jT _ _ 4 _ _ _ _
  -- leaf 0 at 4
  exact k_packP_lp l hO hQ h g n hg hv L0 hL _ (fun mem hi => ⟨rfl, hi⟩) _ 0 h _ _ (Nat.lt_succ_self _) ⟨Nat.zero_le _, k0, fun y _ _ => rfl⟩
set_option maxRecDepth 20000 in
set_option maxHeartbeats 1000000 in
theorem k_split_lp (l : Launch) {o a b : Nat} (hO : OrS o a b) (hQ : OrD o a b) (h g : jH) (n : Nat) (hg : OG h o a b g n) (hv : OGv g n) (P : Option Value → jH → Prop) (hP : ∀ mem, (RL mem 331 332 (vls g false n) ∧ RL mem 333 334 (vls g true n) ∧ ∀ y, (y < 331 ∨ 334 < y) → mem y = h y) → P none mem) : ∀ (m : Nat) (k : Nat) (mem : jH) (y3 : Option Value), n - k < m → (k ≤ n ∧ RL mem 331 332 (vls g false k) ∧ RL mem 333 334 (vls g true k) ∧ ∀ y, (y < 331 ∨ 334 < y) → mem y = h y) → jT l 51 18 [some (.ref 328), some (.ref o), some (.int (jI ((k : Int)))), y3] [] mem P := by
  have n64 := hv.1
  intro m
  induction m with
  | zero => intro k mem y3 hk; omega
  | succ m ih =>
    intro k mem y3 hk hi
    obtain ⟨i0, i1, i2, fr⟩ := hi
    have hgm := (hg.of (fr o (by have := hQ.1; omega)) (fr a (by have := hQ.2.1; omega)) (fr b (by have := hQ.2.2; omega)))
    have vb := (vls_b hv k i0).1
    refine tl_iload_n rfl rfl ?_
    refine tl_aload_n rfl rfl ?_
    refine tl_geti (c := 3) (k9 := 2) rfl hO.1 rfl ?_
    rw [hgm.1]
    refine tl_icmp_ge (tgt := 62) rfl rfl ⟨by omega, by omega⟩ ⟨by omega, by omega⟩ (fun c1 => ?_) (fun c1 => ?_)
    · skip
      refine tl_ret rfl ?_
      -- leaf 0 at 62
      have e : k = n := by omega
      rw [e] at i1 i2
      exact hP mem ⟨i1, i2, fr⟩
    · show jT _ _ 26 _ _ _ _
      have gb := (hv.2 k (by omega)).1
      refine tl_aload_n rfl rfl ?_
      show jT _ _ 27 _ _ _ _
      refine tl_iload_n rfl rfl ?_
      refine tl_v1i (c9 := 3) (k_plA l hO mem g n hgm hv k (by omega)) rfl rfl rfl hO.1 rfl (Nat.le_of_ble_eq_true rfl) (fun z1 h1 p1 => ?_)
      obtain ⟨q1, rfl⟩ := p1
      have q1 := q1.symm
      subst q1
      refine tl_iconst rfl ?_
      refine tl_icmp_ne (tgt := 42) rfl rfl ⟨by omega, by omega⟩ ⟨by omega, by omega⟩ (fun c2 => ?_) (fun c2 => ?_)
      · skip
        refine tl_aload_n rfl rfl ?_
        refine tl_getr (c := 4) (k9 := 1) (b := 331) rfl rfl rfl rfl ?_
        refine tl_astore_n rfl (Nat.le_of_ble_eq_true rfl) rfl ?_
        show jT _ _ 47 _ _ _ _
        -- leaf 1 at 47
        refine tl_aload_n rfl rfl ?_
        refine tl_aload_n rfl rfl ?_
        refine tl_iload_n rfl rfl ?_
        refine tl_v1i (c9 := 3) (k_vaA l hO mem g n hgm hv k (by omega)) rfl rfl rfl hO.1 rfl (Nat.le_of_ble_eq_true rfl) (fun z2 h2 p2 => ?_)
        obtain ⟨q2, rfl⟩ := p2
        have q2 := q2.symm
        subst q2
        refine tl_v1v (c9 := 8) (c_addL l R331 mem _ i1 (by omega) (g 1 k)) rfl rfl rfl rfl rfl (Nat.le_of_ble_eq_true rfl) (fun h2 p2 => ?_)
        obtain ⟨k2, f2⟩ := p2
        refine tl_iinc rfl rfl rfl ?_
        show jT _ _ 59 _ _ _ _
        refine tl_goto (tgt := 18) rfl rfl ?_
        show jT _ _ 18 _ _ _ _
        -- leaf 0 at 18
        refine ih (k + 1) h2 _ (by omega) ⟨by omega, ?_, ?_, fun y hy => (f2 y (by omega) (by omega)).trans (fr y hy)⟩
        · rw [vls, decide_eq_false (by omega), if_pos rfl]; exact k2
        · rw [vls, decide_eq_false (by omega), if_neg (by decide)]; exact i2.of (f2 333 (by decide) (by decide)) (f2 334 (by decide) (by decide))
      · show jT _ _ 35 _ _ _ _
        show jT _ _ 35 _ _ _ _
        refine tl_aload_n rfl rfl ?_
        refine tl_getr (c := 4) (k9 := 2) (b := 333) rfl rfl rfl rfl ?_
        refine tl_goto (tgt := 46) rfl rfl ?_
        refine tl_astore_n rfl (Nat.le_of_ble_eq_true rfl) rfl ?_
        show jT _ _ 47 _ _ _ _
        -- leaf 2 at 47
        refine tl_aload_n rfl rfl ?_
        refine tl_aload_n rfl rfl ?_
        refine tl_iload_n rfl rfl ?_
        refine tl_v1i (c9 := 3) (k_vaA l hO mem g n hgm hv k (by omega)) rfl rfl rfl hO.1 rfl (Nat.le_of_ble_eq_true rfl) (fun z2 h2 p2 => ?_)
        obtain ⟨q2, rfl⟩ := p2
        have q2 := q2.symm
        subst q2
        refine tl_v1v (c9 := 8) (c_addL l R333 mem _ i2 (by omega) (g 1 k)) rfl rfl rfl rfl rfl (Nat.le_of_ble_eq_true rfl) (fun h2 p2 => ?_)
        obtain ⟨k2, f2⟩ := p2
        refine tl_iinc rfl rfl rfl ?_
        show jT _ _ 59 _ _ _ _
        refine tl_goto (tgt := 18) rfl rfl ?_
        show jT _ _ 18 _ _ _ _
        -- leaf 0 at 18
        refine ih (k + 1) h2 _ (by omega) ⟨by omega, ?_, ?_, fun y hy => (f2 y (by omega) (by omega)).trans (fr y hy)⟩
        · rw [vls, decide_eq_true (by omega), if_neg (by decide)]; exact i1.of (f2 331 (by decide) (by decide)) (f2 332 (by decide) (by decide))
        · rw [vls, decide_eq_true (by omega), if_pos rfl]; exact k2
set_option maxRecDepth 20000 in
set_option maxHeartbeats 1000000 in
theorem k_split (l : Launch) {o a b : Nat} (hO : OrS o a b) (hQ : OrD o a b) (h g : jH) (n : Nat) (hg : OG h o a b g n) (hv : OGv g n) : cV l 51 [.ref 328, .ref o] h (fun h' => RL h' 331 332 (vls g false n) ∧ RL h' 333 334 (vls g true n) ∧ ∀ y, (y < 331 ∨ 334 < y) → h' y = h y) := by
  refine cV.of rfl rfl ?_
  refine tl_aload_n rfl rfl ?_
  refine tl_getr (c := 4) (k9 := 1) (b := 331) rfl rfl rfl rfl ?_
  refine tl_iconst rfl ?_
  refine tl_puti (c := 8) (k9 := 1) rfl rfl rfl rfl ?_
  refine tl_aload_n rfl rfl ?_
  refine tl_getr (c := 4) (k9 := 2) (b := 333) rfl rfl rfl rfl ?_
  show jT _ _ 12 _ _ _ _
  refine tl_iconst rfl ?_
  refine tl_puti (c := 8) (k9 := 1) rfl rfl rfl rfl ?_
  refine tl_iconst rfl ?_
  refine tl_istore_n rfl (Nat.le_of_ble_eq_true rfl) rfl ?_
  show jT _ _ 18 _ _ _ _
  -- leaf 0 at 18
  refine k_split_lp l hO hQ h g n hg hv _ (fun mem hi => ⟨rfl, hi⟩) _ 0 _ _ (Nat.lt_succ_self _) ⟨Nat.zero_le _, ⟨by rw [hs_o (by decide), hs_s]; rfl, fun i hi => absurd hi (by show ¬ i < 0; omega)⟩, ⟨hs_s, fun i hi => absurd hi (by show ¬ i < 0; omega)⟩, fun y hy => by rw [hs_O (by omega), hs_O (by omega)]⟩
