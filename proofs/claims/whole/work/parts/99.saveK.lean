/-! save, of the walked file -/
theorem R379 : RowS 379 380 300 := ⟨rfl, rfl, rfl, rfl⟩
theorem R381 : RowS 381 382 300 := ⟨rfl, rfl, rfl, rfl⟩
theorem k_rowCopy (l : Launch) {r a n r2 a2 n2 : Nat} (hS : RowS r a n) (hS2 : RowS r2 a2 n2) (d : r ≠ a ∧ a2 ≠ r) (h : jH) (V : List Int) (kV : RL h r2 a2 V) (v1 : V.length ≤ n) (v2 : V.length ≤ n2) : cV l 106 [.ref r, .ref r2] h (fun h' => RL h' r a V ∧ ∀ x, x ≠ r → x ≠ a → h' x = h x) := by
  refine (c_Row_copy l hS hS2 h (by rw [kV.1]; omega) (by rw [kV.1]; omega)).mono (fun h' e => ?_)
  have em : min (h r2 1) (n : Int) = (V.length : Int) := by rw [kV.1]; omega
  rw [em] at e
  refine ⟨⟨by rw [e, hw_o d.1, hs_s], fun i hi => ?_⟩, fun x x1 x2 => by rw [e, hw_o x2, hs_O x1]⟩
  rw [e, hw_s, va_cpy, if_pos (by omega)]
  have := kV.2 i hi
  rw [show 0 + (i - 0) = i by omega]
  exact this
def svC (V : List Int) (R : Nat → Int) : Nat → Nat → Int
  | 0 => fun q => if q = 0 then 0 else -1
  | i + 1 => svO V R i (svC V R i)
theorem svC_b {V : List Int} {R : Nat → Int} : ∀ i, 0 ≤ svC V R i 0 ∧ svC V R i 0 ≤ (i : Int) := by
  intro i
  induction i with
  | zero => exact ⟨Int.le_refl _, Int.le_refl _⟩
  | succ i ih =>
    rw [svC, svO]
    split
    · show 0 ≤ svC V R i 0 + 1 ∧ svC V R i 0 + 1 ≤ _; omega
    · omega
theorem svC_s {V : List Int} {R : Nat → Int} (h : V.length < 2) : ∀ i, svC V R i = svC V R 0 := by
  intro i
  induction i with
  | zero => rfl
  | succ i ih =>
    show svO V R i (svC V R i) = _
    unfold svO
    rw [if_neg (fun w => ?_), ih]
    have := (svP_t.mp w.2).1
    unfold oth at this
    rw [if_pos h] at this
    exact this rfl
def Asv (R : Nat → Int) (k w : Int) : Int := if (0 ≤ w ∧ w ≤ 2) ∧ (0 ≤ k ∧ k ≤ 2) ∧ R (200 + 301 * k).toNat ≠ -1 then svC (slL R k) R (slL R k).length w.toNat else -1
def Dsave (s : jH) (k w : Int) : Int × jH := (Asv (s 390) k w, s)
theorem Ag.save {s s' : jH} (h : Ag s s') (k i : Int) : AgD (Dsave s k i) (Dsave s' k i) := AgD.rd h (by rw [h 390 (by decide)])
theorem LB.set {V : List Int} (h : LB V) {i : Nat} {v : Int} (hv : byt v) : LB (V.set i v) := fun x hx => by
  rcases List.mem_or_eq_of_mem_set hx with a | a
  · exact h x a
  · rw [a]; exact hv
theorem RL.set {h : jH} {r a : Nat} {V : List Int} (k : RL h r a V) (d : r ≠ a) {i : Nat} (hi : i < V.length) {v : Int} : RL (hs h a i v) r a (V.set i v) := by
  refine ⟨by rw [hs_o d, List.length_set]; exact k.1, fun q hq => ?_⟩
  rw [List.length_set] at hq
  rw [gd_set hi]
  by_cases c : q = i
  · subst c; rw [if_pos rfl, hs_s]
  · rw [if_neg c, hs_k c]; exact k.2 q hq
theorem RL.set2 {h : jH} {r a : Nat} {V : List Int} {i : Nat} {v : Int} (k : RL h r a (V.set i v)) (d : r ≠ a) (hi : i < V.length) : RL (hs h a i (V.getD i 0)) r a V := by
  refine ⟨by rw [hs_o d, k.1, List.length_set], fun q hq => ?_⟩
  by_cases c : q = i
  · subst c; rw [hs_s]
  · rw [hs_k c, k.2 q (by rw [List.length_set]; exact hq), gd_set hi, if_neg c]
set_option maxRecDepth 20000 in
set_option maxHeartbeats 1000000 in
theorem k_fo_lpS (l : Launch) {rp ap : Nat} (hS : RowS rp ap 300) (hD : (rp < 339 ∨ 382 < rp) ∧ (ap < 339 ∨ 382 < ap)) (h : jH) (V : List Int) (kV : RL h rp ap V) (hV : LB V) (v3 : V.length ≤ 300) (l2 : 2 ≤ V.length) (P : Option Value → jH → Prop) (hx : ∀ mem (c5 c6 : Int) y7, (mem 379 1 = (V.length : Int) ∧ (∀ q, q < V.length → mem 380 q = if q < (V.length - 2) then oth V q else V.getD q 0) ∧ (∀ x, x ≠ 379 → x ≠ 380 → mem x = h x)) → jT l 63 129 [some (.ref 377), some (.ref rp), some (.int (jI ((((V.length - 2) : Nat) : Int)))), some (.int (jI ((V.getD (V.length - 2) 0 * 256 + V.getD (V.length - 1) 0)))), some (.int (jI ((ckF (TB V) (V.length - 2))))), some (.int (jI (c5))), some (.int (jI (c6))), y7] [] mem P) : ∀ (m : Nat) (e : Nat) (mem : jH) (y7 : Option Value), (V.length - 2) - e < m → (e ≤ (V.length - 2) ∧ mem 379 1 = (V.length : Int) ∧ (∀ q, q < V.length → mem 380 q = (if (V.length - 2) - e ≤ q ∧ q < (V.length - 2) then oth V q else V.getD q 0)) ∧ (∀ x, x ≠ 379 → x ≠ 380 → mem x = h x)) → jT l 63 62 [some (.ref 377), some (.ref rp), some (.int (jI ((((V.length - 2) : Nat) : Int)))), some (.int (jI ((V.getD (V.length - 2) 0 * 256 + V.getD (V.length - 1) 0)))), some (.int (jI ((ckF (TB V) (V.length - 2))))), some (.int (jI (chE ((V.getD (V.length - 2) 0 * 256 + V.getD (V.length - 1) 0) - (ckF (TB V) (V.length - 2))) e))), some (.int (jI ((((V.length - 2) : Nat) : Int) - 1 - (e : Int)))), y7] [] mem P := by
  intro m
  induction m with
  | zero => intro e mem y7 hk; omega
  | succ m ih =>
    intro e mem y7 hk hi
    obtain ⟨i0, i9, i1, fr⟩ := hi
    have n1 : mem rp 1 = (V.length : Int) := by rw [fr rp (by omega) (by omega)]; exact kV.1
    have av : ∀ q, q < V.length → mem ap q = V.getD q 0 := fun q hq => by rw [fr ap (by omega) (by omega)]; exact kV.2 q hq
    have cb := ckF_b (TB V) (V.length - 2)
    have ch := chE_b (d := ((V.getD (V.length - 2) 0 * 256 + V.getD (V.length - 1) 0) - (ckF (TB V) (V.length - 2)))) e
    have ya := hV.gd (i := V.length - 2) (by omega)
    have ya1 := ya.1
    have ya2 := ya.2
    have yb := hV.gd (i := V.length - 1) (by omega)
    have yb1 := yb.1
    have yb2 := yb.2
    refine tl_iload rfl rfl ?_
    refine tl_if_lt (tgt := 129) rfl rfl ⟨by omega, by omega⟩ (fun c1 => ?_) (fun c1 => ?_)
    · skip
      show jT _ _ 129 _ _ _ _
      -- leaf 0 at 129
      have ee : e = (V.length - 2) := by omega
      subst ee
      refine hx mem _ _ _ ⟨i9, fun q hq => ?_, fr⟩
      rw [i1 q hq]
      by_cases d : q < (V.length - 2)
      · rw [if_pos d, if_pos (by omega)]
      · rw [if_neg d, if_neg (by omega)]
    · show jT _ _ 67 _ _ _ _
      refine tl_aload_n rfl rfl ?_
      refine tl_iload rfl rfl ?_
      refine tl_v1i (c9 := 8) (c_Row_get l hS mem ((((V.length - 2) : Nat) : Int) - 1 - (e : Int)) (by rw [n1]; omega) (by rw [n1]; omega) ⟨by omega, by omega⟩) rfl rfl rfl hS.1 rfl (Nat.le_of_ble_eq_true rfl) (fun z1 h1 p1 => ?_)
      obtain ⟨q1, p1⟩ := p1
      have q1 := q1.symm
      subst q1
      rw [n1, if_pos (by omega), show ((((V.length - 2) : Nat) : Int) - 1 - (e : Int)).toNat = ((V.length - 2) - 1 - e) by omega, av ((V.length - 2) - 1 - e) (by omega)] at p1
      have y1 := hV.gd (i := ((V.length - 2) - 1 - e)) (by omega)
      have y1a := y1.1
      have y1b := y1.2
      subst p1
      refine tl_iload rfl rfl ?_
      show jT _ _ 75 _ _ _ _
      refine tl_iadd rfl ?_
      refine tl_sipush rfl rfl ?_
      refine tl_irem rfl (by omega) (by omega) (by omega) (by omega) ?_
      refine tl_istore rfl (Nat.le_of_ble_eq_true rfl) rfl ?_
      refine tl_aload_n rfl rfl ?_
      refine tl_getr (c := 5) (k9 := 4) (b := 379) rfl rfl rfl rfl ?_
      refine tl_iload rfl rfl ?_
      show jT _ _ 88 _ _ _ _
      refine tl_iload_n rfl rfl ?_
      refine tl_sipush rfl rfl ?_
      refine tl_icmp_gt (tgt := 103) rfl rfl ⟨by omega, by omega⟩ ⟨by omega, by omega⟩ (fun c2 => ?_) (fun c2 => ?_)
      · skip
        refine tl_iconst rfl ?_
        refine tl_goto (tgt := 109) rfl rfl ?_
        refine tl_v2v (c9 := 8) (c_Row_change l R379 mem ((((V.length - 2) : Nat) : Int) - 1 - (e : Int)) _ (by rw [i9]; omega) (by rw [i9]; omega) ⟨by omega, by omega⟩) rfl rfl rfl rfl rfl (Nat.le_of_ble_eq_true rfl) (fun h2 p2 => ?_)
        rw [i9, if_pos (by omega), show ((((V.length - 2) : Nat) : Int) - 1 - (e : Int)).toNat = (V.length - 2) - 1 - e by omega] at p2
        subst p2
        refine tl_iload rfl rfl ?_
        show jT _ _ 114 _ _ _ _
        refine tl_bipush rfl rfl ?_
        refine tl_imul rfl ?_
        refine tl_sipush rfl rfl ?_
        refine tl_irem rfl (by omega) (by omega) (by omega) (by omega) ?_
        refine tl_istore rfl (Nat.le_of_ble_eq_true rfl) rfl ?_
        refine tl_iinc rfl rfl rfl ?_
        refine tl_goto (tgt := 62) rfl rfl ?_
        show jT _ _ 62 _ _ _ _
        -- leaf 1 at 62
        have oe : oth V ((V.length - 2) - 1 - e) = -1 := by
          unfold oth
          rw [if_neg (by omega), if_pos (show (V.length - 2) - 1 - e < V.length - 2 by omega), show V.length - 2 - 1 - ((V.length - 2) - 1 - e) = e by omega]
          rw [if_pos (by omega)]
        rw [show (((V.length - 2) : Nat) : Int) - 1 - (e : Int) + -1 = (((V.length - 2) : Nat) : Int) - 1 - ((e + 1 : Nat) : Int) by omega]
        refine ih (e + 1) _ _ (by omega) ⟨by omega, by rw [hs_o (by decide)]; exact i9, fun q hq => ?_, fun x x1 x2 => by rw [hs_O x2]; exact fr x x1 x2⟩
        by_cases c : q = (V.length - 2) - 1 - e
        · subst c; rw [hs_s, if_pos (by omega), oe]
        · rw [hs_k c, i1 q hq]
          by_cases d : (V.length - 2) - e ≤ q ∧ q < (V.length - 2)
          · rw [if_pos d, if_pos (by omega)]
          · rw [if_neg d, if_neg (by omega)]
      · show jT _ _ 95 _ _ _ _
        show jT _ _ 95 _ _ _ _
        refine tl_iload rfl rfl ?_
        refine tl_sipush rfl rfl ?_
        refine tl_icmp_le (tgt := 107) rfl rfl ⟨by omega, by omega⟩ ⟨by omega, by omega⟩ (fun c3 => ?_) (fun c3 => ?_)
        · skip
          refine tl_iload rfl rfl ?_
          refine tl_v2v (c9 := 8) (c_Row_change l R379 mem ((((V.length - 2) : Nat) : Int) - 1 - (e : Int)) _ (by rw [i9]; omega) (by rw [i9]; omega) ⟨by omega, by omega⟩) rfl rfl rfl rfl rfl (Nat.le_of_ble_eq_true rfl) (fun h2 p2 => ?_)
          rw [i9, if_pos (by omega), show ((((V.length - 2) : Nat) : Int) - 1 - (e : Int)).toNat = (V.length - 2) - 1 - e by omega] at p2
          subst p2
          refine tl_iload rfl rfl ?_
          refine tl_bipush rfl rfl ?_
          show jT _ _ 116 _ _ _ _
          refine tl_imul rfl ?_
          refine tl_sipush rfl rfl ?_
          refine tl_irem rfl (by omega) (by omega) (by omega) (by omega) ?_
          refine tl_istore rfl (Nat.le_of_ble_eq_true rfl) rfl ?_
          refine tl_iinc rfl rfl rfl ?_
          refine tl_goto (tgt := 62) rfl rfl ?_
          show jT _ _ 62 _ _ _ _
          -- leaf 2 at 62
          have oe : oth V ((V.length - 2) - 1 - e) = ((V.getD ((V.length - 2) - 1 - e) 0 + chE ((V.getD (V.length - 2) 0 * 256 + V.getD (V.length - 1) 0) - (ckF (TB V) (V.length - 2))) e) % 257) := by
            unfold oth
            rw [if_neg (by omega), if_pos (show (V.length - 2) - 1 - e < V.length - 2 by omega), show V.length - 2 - 1 - ((V.length - 2) - 1 - e) = e by omega]
            rw [if_neg (by omega)]
          rw [show (((V.length - 2) : Nat) : Int) - 1 - (e : Int) + -1 = (((V.length - 2) : Nat) : Int) - 1 - ((e + 1 : Nat) : Int) by omega]
          refine ih (e + 1) _ _ (by omega) ⟨by omega, by rw [hs_o (by decide)]; exact i9, fun q hq => ?_, fun x x1 x2 => by rw [hs_O x2]; exact fr x x1 x2⟩
          by_cases c : q = (V.length - 2) - 1 - e
          · subst c; rw [hs_s, if_pos (by omega), oe]
          · rw [hs_k c, i1 q hq]
            by_cases d : (V.length - 2) - e ≤ q ∧ q < (V.length - 2)
            · rw [if_pos d, if_pos (by omega)]
            · rw [if_neg d, if_neg (by omega)]
        · show jT _ _ 103 _ _ _ _
          refine tl_iconst rfl ?_
          show jT _ _ 104 _ _ _ _
          refine tl_goto (tgt := 109) rfl rfl ?_
          refine tl_v2v (c9 := 8) (c_Row_change l R379 mem ((((V.length - 2) : Nat) : Int) - 1 - (e : Int)) _ (by rw [i9]; omega) (by rw [i9]; omega) ⟨by omega, by omega⟩) rfl rfl rfl rfl rfl (Nat.le_of_ble_eq_true rfl) (fun h2 p2 => ?_)
          rw [i9, if_pos (by omega), show ((((V.length - 2) : Nat) : Int) - 1 - (e : Int)).toNat = (V.length - 2) - 1 - e by omega] at p2
          subst p2
          refine tl_iload rfl rfl ?_
          refine tl_bipush rfl rfl ?_
          refine tl_imul rfl ?_
          refine tl_sipush rfl rfl ?_
          refine tl_irem rfl (by omega) (by omega) (by omega) (by omega) ?_
          show jT _ _ 121 _ _ _ _
          refine tl_istore rfl (Nat.le_of_ble_eq_true rfl) rfl ?_
          refine tl_iinc rfl rfl rfl ?_
          refine tl_goto (tgt := 62) rfl rfl ?_
          show jT _ _ 62 _ _ _ _
          -- leaf 3 at 62
          have oe : oth V ((V.length - 2) - 1 - e) = -1 := by
            unfold oth
            rw [if_neg (by omega), if_pos (show (V.length - 2) - 1 - e < V.length - 2 by omega), show V.length - 2 - 1 - ((V.length - 2) - 1 - e) = e by omega]
            rw [if_pos (by omega)]
          rw [show (((V.length - 2) : Nat) : Int) - 1 - (e : Int) + -1 = (((V.length - 2) : Nat) : Int) - 1 - ((e + 1 : Nat) : Int) by omega]
          refine ih (e + 1) _ _ (by omega) ⟨by omega, by rw [hs_o (by decide)]; exact i9, fun q hq => ?_, fun x x1 x2 => by rw [hs_O x2]; exact fr x x1 x2⟩
          by_cases c : q = (V.length - 2) - 1 - e
          · subst c; rw [hs_s, if_pos (by omega), oe]
          · rw [hs_k c, i1 q hq]
            by_cases d : (V.length - 2) - e ≤ q ∧ q < (V.length - 2)
            · rw [if_pos d, if_pos (by omega)]
            · rw [if_neg d, if_neg (by omega)]
set_option maxRecDepth 20000 in
set_option maxHeartbeats 4000000 in
theorem k_findOthers (l : Launch) {rp ap : Nat} (hS : RowS rp ap 300) (hD : (rp < 339 ∨ 382 < rp) ∧ (ap < 339 ∨ 382 < ap)) (h : jH) (V : List Int) (kV : RL h rp ap V) (hV : LB V) (v3 : V.length ≤ 300) (l1 : 1 ≤ V.length) : cV l 63 [.ref 377, .ref rp] h (fun h' => h' 379 1 = (V.length : Int) ∧ (∀ q, q < V.length → h' 380 q = oth V q) ∧ ∀ x, x ≠ 379 → x ≠ 380 → h' x = h x) := by
  refine cV.of rfl rfl ?_
  refine tl_aload_n rfl rfl ?_
  refine tl_getr (c := 5) (k9 := 4) (b := 379) rfl rfl rfl rfl ?_
  refine tl_aload_n rfl rfl ?_
  refine tl_v1v (c9 := 8) (k_rowCopy l R379 hS (by omega) h V kV (by omega) (by omega)) rfl rfl rfl rfl rfl (Nat.le_of_ble_eq_true rfl) (fun mem p1 => ?_)
  obtain ⟨kO, fr⟩ := p1
  have i9 := kO.1
  have i1 := kO.2
  have n1 : mem rp 1 = (V.length : Int) := by rw [fr rp (by omega) (by omega)]; exact kV.1
  have av : ∀ q, q < V.length → mem ap q = V.getD q 0 := fun q hq => by rw [fr ap (by omega) (by omega)]; exact kV.2 q hq
  refine tl_aload_n rfl rfl ?_
  refine tl_geti (c := 8) (k9 := 1) rfl hS.1 rfl ?_
  rw [n1]
  show jT _ _ 12 _ _ _ _
  refine tl_iconst rfl ?_
  refine tl_isub rfl ?_
  refine tl_istore_n rfl (Nat.le_of_ble_eq_true rfl) rfl ?_
  refine tl_iload_n rfl rfl ?_
  refine tl_if_ge (tgt := 20) rfl rfl ⟨by omega, by omega⟩ (fun c1 => ?_) (fun c1 => ?_)
  · skip
    show jT _ _ 20 _ _ _ _
    -- leaf 0 at 20
    rw [show (V.length : Int) - 2 = (((V.length - 2) : Nat) : Int) by omega]
    refine tl_aload_n rfl rfl ?_
    refine tl_iload_n rfl rfl ?_
    refine tl_v1i (c9 := 8) (c_Row_get l hS mem ((((V.length - 2) : Nat) : Int)) (by rw [n1]; omega) (by rw [n1]; omega) ⟨by omega, by omega⟩) rfl rfl rfl hS.1 rfl (Nat.le_of_ble_eq_true rfl) (fun z1 h1 p1 => ?_)
    obtain ⟨q1, p1⟩ := p1
    have q1 := q1.symm
    subst q1
    rw [n1, if_pos (by omega), show ((((V.length - 2) : Nat) : Int)).toNat = (V.length - 2) by omega, av (V.length - 2) (by omega)] at p1
    have y1 := hV.gd (i := (V.length - 2)) (by omega)
    have y1a := y1.1
    have y1b := y1.2
    subst p1
    refine tl_sipush rfl rfl ?_
    refine tl_imul rfl ?_
    refine tl_aload_n rfl rfl ?_
    show jT _ _ 30 _ _ _ _
    refine tl_iload_n rfl rfl ?_
    refine tl_iconst rfl ?_
    refine tl_iadd rfl ?_
    refine tl_v1i (c9 := 8) (c_Row_get l hS mem ((((V.length - 2) : Nat) : Int) + 1) (by rw [n1]; omega) (by rw [n1]; omega) ⟨by omega, by omega⟩) rfl rfl rfl hS.1 rfl (Nat.le_of_ble_eq_true rfl) (fun z2 h2 p2 => ?_)
    obtain ⟨q2, p2⟩ := p2
    have q2 := q2.symm
    subst q2
    rw [n1, if_pos (by omega), show ((((V.length - 2) : Nat) : Int) + 1).toNat = (V.length - 1) by omega, av (V.length - 1) (by omega)] at p2
    have y2 := hV.gd (i := (V.length - 1)) (by omega)
    have y2a := y2.1
    have y2b := y2.2
    subst p2
    refine tl_iadd rfl ?_
    refine tl_istore_n rfl (Nat.le_of_ble_eq_true rfl) rfl ?_
    refine tl_aload_n rfl rfl ?_
    show jT _ _ 39 _ _ _ _
    refine tl_iload_n rfl rfl ?_
    refine tl_v1i (c9 := 8) (c_Row_check l hS mem (((V.length - 2) : Nat) : Int) ⟨by omega, by omega⟩ (by rw [n1]; omega) (by rw [n1]; omega) (fun i hi => by rw [n1] at hi; rw [av i (by omega)]; have := hV.gd (i := i) (by omega); exact ⟨this.1, by have := this.2; omega⟩)) rfl rfl rfl hS.1 rfl (Nat.le_of_ble_eq_true rfl) (fun z3 h3 p3 => ?_)
    obtain ⟨q3, p3⟩ := p3
    have q3 := q3.symm
    subst q3
    have p3 : z3 = (ckF (TB V) (V.length - 2)) := by
      rw [p3, n1, Int.toNat_natCast, Int.toNat_natCast, show min (V.length - 2) V.length = (V.length - 2) by omega]
      exact ckF_congr _ (fun i hi => av i (by omega))
    subst p3
    have cb := ckF_b (TB V) (V.length - 2)
    refine tl_istore rfl (Nat.le_of_ble_eq_true rfl) rfl ?_
    refine tl_iload_n rfl rfl ?_
    refine tl_iload rfl rfl ?_
    refine tl_isub rfl ?_
    refine tl_sipush rfl rfl ?_
    show jT _ _ 52 _ _ _ _
    refine tl_s2i (c_floorMod l _ _ ⟨by omega, by omega⟩) rfl rfl rfl (Nat.le_of_ble_eq_true rfl) (fun z4 h4 p4 => ?_)
    obtain ⟨q4, p4⟩ := p4
    have q4 := q4.symm
    subst q4
    subst p4
    refine tl_istore rfl (Nat.le_of_ble_eq_true rfl) rfl ?_
    refine tl_iload_n rfl rfl ?_
    refine tl_iconst rfl ?_
    refine tl_isub rfl ?_
    refine tl_istore rfl (Nat.le_of_ble_eq_true rfl) rfl ?_
    show jT _ _ 62 _ _ _ _
    -- leaf 0 at 62
    refine jT.loc ?_ (k_fo_lpS l hS hD h V kV hV v3 (by omega) _ (fun mem c5 c6 y7 hi => ?_) _ 0 mem none (Nat.lt_succ_self _) ⟨Nat.zero_le _, i9, fun q hq => by rw [if_neg (by omega)]; exact i1 q hq, fr⟩)
    · rw [show (((V.length - 2) : Nat) : Int) - 1 - ((0 : Nat) : Int) = (((V.length - 2) : Nat) : Int) - 1 by omega]; rfl
    · clear fr i9 i1 n1 av
      obtain ⟨i9, i1, fr⟩ := hi
      have n1 : mem rp 1 = (V.length : Int) := by rw [fr rp (by omega) (by omega)]; exact kV.1
      have av : ∀ q, q < V.length → mem ap q = V.getD q 0 := fun q hq => by rw [fr ap (by omega) (by omega)]; exact kV.2 q hq
      have cb := ckF_b (TB V) (V.length - 2)
      have oa : oth V (V.length - 2) = (if V.getD (V.length - 1) 0 = (ckF (TB V) (V.length - 2)) % 256 then (ckF (TB V) (V.length - 2)) / 256 else -1) := by unfold oth; rw [if_neg (by omega), if_neg (by omega), if_pos rfl]
      have ob : oth V (V.length - 1) = (if V.getD (V.length - 2) 0 = (ckF (TB V) (V.length - 2)) / 256 then (ckF (TB V) (V.length - 2)) % 256 else -1) := by unfold oth; rw [if_neg (by omega), if_neg (by omega), if_neg (by omega)]
      refine tl_aload_n rfl rfl ?_
      refine tl_iload_n rfl rfl ?_
      refine tl_v1i (c9 := 8) (c_Row_get l hS mem ((((V.length - 2) : Nat) : Int)) (by rw [n1]; omega) (by rw [n1]; omega) ⟨by omega, by omega⟩) rfl rfl rfl hS.1 rfl (Nat.le_of_ble_eq_true rfl) (fun z1 h1 p1 => ?_)
      obtain ⟨q1, p1⟩ := p1
      have q1 := q1.symm
      subst q1
      rw [n1, if_pos (by omega), show ((((V.length - 2) : Nat) : Int)).toNat = (V.length - 2) by omega, av (V.length - 2) (by omega)] at p1
      have y1 := hV.gd (i := (V.length - 2)) (by omega)
      have y1a := y1.1
      have y1b := y1.2
      subst p1
      refine tl_iload rfl rfl ?_
      refine tl_sipush rfl rfl ?_
      refine tl_idiv rfl (by omega) (by omega) (by omega) (by omega) ?_
      show jT _ _ 140 _ _ _ _
      refine tl_icmp_ne (tgt := 147) rfl rfl ⟨by omega, by omega⟩ ⟨by omega, by omega⟩ (fun c1 => ?_) (fun c1 => ?_)
      · skip
        refine tl_iconst rfl ?_
        refine tl_istore rfl (Nat.le_of_ble_eq_true rfl) rfl ?_
        refine tl_aload_n rfl rfl ?_
        refine tl_iload_n rfl rfl ?_
        refine tl_iconst rfl ?_
        refine tl_iadd rfl ?_
        show jT _ _ 154 _ _ _ _
        refine tl_v1i (c9 := 8) (c_Row_get l hS mem ((((V.length - 2) : Nat) : Int) + 1) (by rw [n1]; omega) (by rw [n1]; omega) ⟨by omega, by omega⟩) rfl rfl rfl hS.1 rfl (Nat.le_of_ble_eq_true rfl) (fun z2 h2 p2 => ?_)
        obtain ⟨q2, p2⟩ := p2
        have q2 := q2.symm
        subst q2
        rw [n1, if_pos (by omega), show ((((V.length - 2) : Nat) : Int) + 1).toNat = (V.length - 1) by omega, av (V.length - 1) (by omega)] at p2
        have y2 := hV.gd (i := (V.length - 1)) (by omega)
        have y2a := y2.1
        have y2b := y2.2
        subst p2
        refine tl_iload rfl rfl ?_
        refine tl_sipush rfl rfl ?_
        refine tl_irem rfl (by omega) (by omega) (by omega) (by omega) ?_
        refine tl_icmp_ne (tgt := 170) rfl rfl ⟨by omega, by omega⟩ ⟨by omega, by omega⟩ (fun c2 => ?_) (fun c2 => ?_)
        · skip
          refine tl_iconst rfl ?_
          refine tl_istore rfl (Nat.le_of_ble_eq_true rfl) rfl ?_
          show jT _ _ 173 _ _ _ _
          refine tl_aload_n rfl rfl ?_
          refine tl_getr (c := 5) (k9 := 4) (b := 379) rfl rfl rfl rfl ?_
          refine tl_iload_n rfl rfl ?_
          refine tl_iload rfl rfl ?_
          refine tl_if_eq (tgt := 192) rfl rfl ⟨by omega, by omega⟩ (fun c3 => ?_) (fun c3 => ?_)
          · skip
            refine tl_iconst rfl ?_
            refine tl_v2v (c9 := 8) (c_Row_change l R379 mem (((V.length - 2) : Nat) : Int) _ (by rw [i9]; omega) (by rw [i9]; omega) ⟨by omega, by omega⟩) rfl rfl rfl rfl rfl (Nat.le_of_ble_eq_true rfl) (fun h5 p5 => ?_)
            rw [i9, if_pos (by omega), Int.toNat_natCast] at p5
            subst p5
            show jT _ _ 196 _ _ _ _
            refine tl_aload_n rfl rfl ?_
            refine tl_getr (c := 5) (k9 := 4) (b := 379) rfl rfl rfl rfl ?_
            refine tl_iload_n rfl rfl ?_
            refine tl_iconst rfl ?_
            refine tl_iadd rfl ?_
            refine tl_iload rfl rfl ?_
            refine tl_if_eq (tgt := 217) rfl rfl ⟨by omega, by omega⟩ (fun c4 => ?_) (fun c4 => ?_)
            · skip
              show jT _ _ 217 _ _ _ _
              refine tl_iconst rfl ?_
              refine tl_v2v (c9 := 8) (c_Row_change l R379 _ ((((V.length - 2) : Nat) : Int) + 1) _ (by rw [hs_o (by decide), i9]; omega) (by rw [hs_o (by decide), i9]; omega) ⟨by omega, by omega⟩) rfl rfl rfl rfl rfl (Nat.le_of_ble_eq_true rfl) (fun h6 p6 => ?_)
              rw [hs_o (by decide), i9, if_pos (by omega), show ((((V.length - 2) : Nat) : Int) + 1).toNat = V.length - 1 by omega] at p6
              subst p6
              refine tl_ret rfl ?_
              -- leaf 0 at 221
              refine ⟨rfl, ?_, fun q hq => ?_, fun x x1 x2 => by rw [hs_O x2, hs_O x2]; exact fr x x1 x2⟩
              · rw [hs_o (by decide), hs_o (by decide)]; exact i9
              · by_cases c : q = V.length - 1
                · subst c; rw [hs_s, ob]; first | rw [if_pos (by omega)] | rw [if_neg (by omega)]
                · rw [hs_k c]
                  by_cases d : q = (V.length - 2)
                  · rw [d, hs_s, oa]; first | rw [if_pos (by omega)] | rw [if_neg (by omega)]
                  · rw [hs_k d, i1 q hq, if_pos (by omega)]
            · show jT _ _ 208 _ _ _ _
              exfalso; omega
          · show jT _ _ 183 _ _ _ _
            exfalso; omega
        · show jT _ _ 166 _ _ _ _
          refine tl_iconst rfl ?_
          refine tl_goto (tgt := 171) rfl rfl ?_
          refine tl_istore rfl (Nat.le_of_ble_eq_true rfl) rfl ?_
          refine tl_aload_n rfl rfl ?_
          show jT _ _ 174 _ _ _ _
          refine tl_getr (c := 5) (k9 := 4) (b := 379) rfl rfl rfl rfl ?_
          refine tl_iload_n rfl rfl ?_
          refine tl_iload rfl rfl ?_
          refine tl_if_eq (tgt := 192) rfl rfl ⟨by omega, by omega⟩ (fun c5 => ?_) (fun c5 => ?_)
          · skip
            exfalso; omega
          · show jT _ _ 183 _ _ _ _
            refine tl_iload rfl rfl ?_
            refine tl_sipush rfl rfl ?_
            refine tl_idiv rfl (by omega) (by omega) (by omega) (by omega) ?_
            show jT _ _ 189 _ _ _ _
            refine tl_goto (tgt := 193) rfl rfl ?_
            refine tl_v2v (c9 := 8) (c_Row_change l R379 mem (((V.length - 2) : Nat) : Int) _ (by rw [i9]; omega) (by rw [i9]; omega) ⟨by omega, by omega⟩) rfl rfl rfl rfl rfl (Nat.le_of_ble_eq_true rfl) (fun h5 p5 => ?_)
            rw [i9, if_pos (by omega), Int.toNat_natCast] at p5
            subst p5
            refine tl_aload_n rfl rfl ?_
            refine tl_getr (c := 5) (k9 := 4) (b := 379) rfl rfl rfl rfl ?_
            refine tl_iload_n rfl rfl ?_
            refine tl_iconst rfl ?_
            refine tl_iadd rfl ?_
            show jT _ _ 203 _ _ _ _
            refine tl_iload rfl rfl ?_
            refine tl_if_eq (tgt := 217) rfl rfl ⟨by omega, by omega⟩ (fun c6 => ?_) (fun c6 => ?_)
            · skip
              refine tl_iconst rfl ?_
              refine tl_v2v (c9 := 8) (c_Row_change l R379 _ ((((V.length - 2) : Nat) : Int) + 1) _ (by rw [hs_o (by decide), i9]; omega) (by rw [hs_o (by decide), i9]; omega) ⟨by omega, by omega⟩) rfl rfl rfl rfl rfl (Nat.le_of_ble_eq_true rfl) (fun h6 p6 => ?_)
              rw [hs_o (by decide), i9, if_pos (by omega), show ((((V.length - 2) : Nat) : Int) + 1).toNat = V.length - 1 by omega] at p6
              subst p6
              refine tl_ret rfl ?_
              -- leaf 1 at 221
              refine ⟨rfl, ?_, fun q hq => ?_, fun x x1 x2 => by rw [hs_O x2, hs_O x2]; exact fr x x1 x2⟩
              · rw [hs_o (by decide), hs_o (by decide)]; exact i9
              · by_cases c : q = V.length - 1
                · subst c; rw [hs_s, ob]; first | rw [if_pos (by omega)] | rw [if_neg (by omega)]
                · rw [hs_k c]
                  by_cases d : q = (V.length - 2)
                  · rw [d, hs_s, oa]; first | rw [if_pos (by omega)] | rw [if_neg (by omega)]
                  · rw [hs_k d, i1 q hq, if_pos (by omega)]
            · show jT _ _ 208 _ _ _ _
              exfalso; omega
      · show jT _ _ 143 _ _ _ _
        refine tl_iconst rfl ?_
        refine tl_goto (tgt := 148) rfl rfl ?_
        show jT _ _ 148 _ _ _ _
        refine tl_istore rfl (Nat.le_of_ble_eq_true rfl) rfl ?_
        refine tl_aload_n rfl rfl ?_
        refine tl_iload_n rfl rfl ?_
        refine tl_iconst rfl ?_
        refine tl_iadd rfl ?_
        refine tl_v1i (c9 := 8) (c_Row_get l hS mem ((((V.length - 2) : Nat) : Int) + 1) (by rw [n1]; omega) (by rw [n1]; omega) ⟨by omega, by omega⟩) rfl rfl rfl hS.1 rfl (Nat.le_of_ble_eq_true rfl) (fun z2 h2 p2 => ?_)
        obtain ⟨q2, p2⟩ := p2
        have q2 := q2.symm
        subst q2
        rw [n1, if_pos (by omega), show ((((V.length - 2) : Nat) : Int) + 1).toNat = (V.length - 1) by omega, av (V.length - 1) (by omega)] at p2
        have y2 := hV.gd (i := (V.length - 1)) (by omega)
        have y2a := y2.1
        have y2b := y2.2
        subst p2
        refine tl_iload rfl rfl ?_
        show jT _ _ 159 _ _ _ _
        refine tl_sipush rfl rfl ?_
        refine tl_irem rfl (by omega) (by omega) (by omega) (by omega) ?_
        refine tl_icmp_ne (tgt := 170) rfl rfl ⟨by omega, by omega⟩ ⟨by omega, by omega⟩ (fun c7 => ?_) (fun c7 => ?_)
        · skip
          refine tl_iconst rfl ?_
          refine tl_istore rfl (Nat.le_of_ble_eq_true rfl) rfl ?_
          refine tl_aload_n rfl rfl ?_
          refine tl_getr (c := 5) (k9 := 4) (b := 379) rfl rfl rfl rfl ?_
          show jT _ _ 177 _ _ _ _
          refine tl_iload_n rfl rfl ?_
          refine tl_iload rfl rfl ?_
          refine tl_if_eq (tgt := 192) rfl rfl ⟨by omega, by omega⟩ (fun c8 => ?_) (fun c8 => ?_)
          · skip
            refine tl_iconst rfl ?_
            refine tl_v2v (c9 := 8) (c_Row_change l R379 mem (((V.length - 2) : Nat) : Int) _ (by rw [i9]; omega) (by rw [i9]; omega) ⟨by omega, by omega⟩) rfl rfl rfl rfl rfl (Nat.le_of_ble_eq_true rfl) (fun h5 p5 => ?_)
            rw [i9, if_pos (by omega), Int.toNat_natCast] at p5
            subst p5
            refine tl_aload_n rfl rfl ?_
            refine tl_getr (c := 5) (k9 := 4) (b := 379) rfl rfl rfl rfl ?_
            show jT _ _ 200 _ _ _ _
            refine tl_iload_n rfl rfl ?_
            refine tl_iconst rfl ?_
            refine tl_iadd rfl ?_
            refine tl_iload rfl rfl ?_
            refine tl_if_eq (tgt := 217) rfl rfl ⟨by omega, by omega⟩ (fun c9 => ?_) (fun c9 => ?_)
            · skip
              exfalso; omega
            · show jT _ _ 208 _ _ _ _
              refine tl_iload rfl rfl ?_
              refine tl_sipush rfl rfl ?_
              show jT _ _ 213 _ _ _ _
              refine tl_irem rfl (by omega) (by omega) (by omega) (by omega) ?_
              refine tl_goto (tgt := 218) rfl rfl ?_
              refine tl_v2v (c9 := 8) (c_Row_change l R379 _ ((((V.length - 2) : Nat) : Int) + 1) _ (by rw [hs_o (by decide), i9]; omega) (by rw [hs_o (by decide), i9]; omega) ⟨by omega, by omega⟩) rfl rfl rfl rfl rfl (Nat.le_of_ble_eq_true rfl) (fun h6 p6 => ?_)
              rw [hs_o (by decide), i9, if_pos (by omega), show ((((V.length - 2) : Nat) : Int) + 1).toNat = V.length - 1 by omega] at p6
              subst p6
              refine tl_ret rfl ?_
              -- leaf 2 at 221
              refine ⟨rfl, ?_, fun q hq => ?_, fun x x1 x2 => by rw [hs_O x2, hs_O x2]; exact fr x x1 x2⟩
              · rw [hs_o (by decide), hs_o (by decide)]; exact i9
              · by_cases c : q = V.length - 1
                · subst c; rw [hs_s, ob]; first | rw [if_pos (by omega)] | rw [if_neg (by omega)]
                · rw [hs_k c]
                  by_cases d : q = (V.length - 2)
                  · rw [d, hs_s, oa]; first | rw [if_pos (by omega)] | rw [if_neg (by omega)]
                  · rw [hs_k d, i1 q hq, if_pos (by omega)]
          · show jT _ _ 183 _ _ _ _
            exfalso; omega
        · show jT _ _ 166 _ _ _ _
          refine tl_iconst rfl ?_
          refine tl_goto (tgt := 171) rfl rfl ?_
          refine tl_istore rfl (Nat.le_of_ble_eq_true rfl) rfl ?_
          show jT _ _ 173 _ _ _ _
          refine tl_aload_n rfl rfl ?_
          refine tl_getr (c := 5) (k9 := 4) (b := 379) rfl rfl rfl rfl ?_
          refine tl_iload_n rfl rfl ?_
          refine tl_iload rfl rfl ?_
          refine tl_if_eq (tgt := 192) rfl rfl ⟨by omega, by omega⟩ (fun c10 => ?_) (fun c10 => ?_)
          · skip
            exfalso; omega
          · show jT _ _ 183 _ _ _ _
            refine tl_iload rfl rfl ?_
            refine tl_sipush rfl rfl ?_
            show jT _ _ 188 _ _ _ _
            refine tl_idiv rfl (by omega) (by omega) (by omega) (by omega) ?_
            refine tl_goto (tgt := 193) rfl rfl ?_
            refine tl_v2v (c9 := 8) (c_Row_change l R379 mem (((V.length - 2) : Nat) : Int) _ (by rw [i9]; omega) (by rw [i9]; omega) ⟨by omega, by omega⟩) rfl rfl rfl rfl rfl (Nat.le_of_ble_eq_true rfl) (fun h5 p5 => ?_)
            rw [i9, if_pos (by omega), Int.toNat_natCast] at p5
            subst p5
            refine tl_aload_n rfl rfl ?_
            refine tl_getr (c := 5) (k9 := 4) (b := 379) rfl rfl rfl rfl ?_
            refine tl_iload_n rfl rfl ?_
            refine tl_iconst rfl ?_
            show jT _ _ 202 _ _ _ _
            refine tl_iadd rfl ?_
            refine tl_iload rfl rfl ?_
            refine tl_if_eq (tgt := 217) rfl rfl ⟨by omega, by omega⟩ (fun c11 => ?_) (fun c11 => ?_)
            · skip
              exfalso; omega
            · show jT _ _ 208 _ _ _ _
              refine tl_iload rfl rfl ?_
              refine tl_sipush rfl rfl ?_
              refine tl_irem rfl (by omega) (by omega) (by omega) (by omega) ?_
              refine tl_goto (tgt := 218) rfl rfl ?_
              show jT _ _ 218 _ _ _ _
              refine tl_v2v (c9 := 8) (c_Row_change l R379 _ ((((V.length - 2) : Nat) : Int) + 1) _ (by rw [hs_o (by decide), i9]; omega) (by rw [hs_o (by decide), i9]; omega) ⟨by omega, by omega⟩) rfl rfl rfl rfl rfl (Nat.le_of_ble_eq_true rfl) (fun h6 p6 => ?_)
              rw [hs_o (by decide), i9, if_pos (by omega), show ((((V.length - 2) : Nat) : Int) + 1).toNat = V.length - 1 by omega] at p6
              subst p6
              refine tl_ret rfl ?_
              -- leaf 3 at 221
              refine ⟨rfl, ?_, fun q hq => ?_, fun x x1 x2 => by rw [hs_O x2, hs_O x2]; exact fr x x1 x2⟩
              · rw [hs_o (by decide), hs_o (by decide)]; exact i9
              · by_cases c : q = V.length - 1
                · subst c; rw [hs_s, ob]; first | rw [if_pos (by omega)] | rw [if_neg (by omega)]
                · rw [hs_k c]
                  by_cases d : q = (V.length - 2)
                  · rw [d, hs_s, oa]; first | rw [if_pos (by omega)] | rw [if_neg (by omega)]
                  · rw [hs_k d, i1 q hq, if_pos (by omega)]
  · show jT _ _ 19 _ _ _ _
    refine tl_ret rfl ?_
    -- leaf 1 at 19
    refine ⟨rfl, i9, fun q hq => ?_, fr⟩
    rw [i1 q hq]
    unfold oth
    rw [if_pos (by omega)]
set_option maxRecDepth 20000 in
set_option maxHeartbeats 1000000 in
theorem k_fs_lp (l : Launch) {rp ap : Nat} (hS : RowS rp ap 300) (hD : (rp < 339 ∨ 382 < rp) ∧ (ap < 339 ∨ 382 < ap)) (h : jH) (V : List Int) (kV : RL h rp ap V) (hV : LB V) (v3 : V.length ≤ 300) (R : Nat → Int) (hR : RS h 1 R) (r18 : True) (ho : h 379 1 = (V.length : Int) ∧ ∀ q, q < V.length → h 380 q = oth V q) (P : Option Value → jH → Prop) (hP : ∀ mem, ((mem 377 0 = svC V R V.length 0 ∧ mem 377 1 = svC V R V.length 1 ∧ mem 377 2 = svC V R V.length 2) ∧ (∀ x, x ≠ 377 → (x < 339 ∨ 355 < x) → x ≠ 381 → x ≠ 382 → mem x = h x)) → P none mem) : ∀ (m : Nat) (i : Nat) (mem : jH) (y5 : Option Value), V.length - i < m → (i ≤ V.length ∧ (mem 377 0 = (svC V R i) 0 ∧ mem 377 1 = (svC V R i) 1 ∧ mem 377 2 = (svC V R i) 2) ∧ RL mem 381 382 V ∧ (∀ x, x ≠ 377 → (x < 339 ∨ 355 < x) → x ≠ 381 → x ≠ 382 → mem x = h x)) → jT l 62 31 [some (.ref 377), some (.ref rp), some (.ref 2), some (.ref 339), some (.int (jI ((i : Int)))), y5] [] mem P := by
  intro m
  induction m with
  | zero => intro i mem y5 hk; omega
  | succ m ih =>
    intro i mem y5 hk hi
    obtain ⟨i0, kW, kT, fr⟩ := hi
    have n1 : mem rp 1 = (V.length : Int) := by rw [fr rp (by omega) (by omega) (by omega) (by omega)]; exact kV.1
    have av : ∀ q, q < V.length → mem ap q = V.getD q 0 := fun q hq => by rw [fr ap (by omega) (by omega) (by omega) (by omega)]; exact kV.2 q hq
    have o1 : mem 379 1 = (V.length : Int) := by rw [fr 379 (by decide) (by decide) (by decide) (by decide)]; exact ho.1
    have o2 : ∀ q, q < V.length → mem 380 q = oth V q := fun q hq => by rw [fr 380 (by decide) (by decide) (by decide) (by decide)]; exact ho.2 q hq
    have wb := svC_b (V := V) (R := R) i
    have obx : V.length ≤ i ∨ (-1 ≤ oth V i ∧ oth V i ≤ 255) := by
      by_cases c : i < V.length
      · exact Or.inr (oth_b hV c)
      · exact Or.inl (by omega)
    have kT1 := kT.1
    refine tl_iload rfl rfl ?_
    refine tl_aload_n rfl rfl ?_
    refine tl_getr (c := 5) (k9 := 4) (b := 379) rfl rfl rfl rfl ?_
    refine tl_geti (c := 8) (k9 := 1) rfl rfl rfl ?_
    rw [o1]
    refine tl_icmp_ge (tgt := 166) rfl rfl ⟨by omega, by omega⟩ ⟨by omega, by omega⟩ (fun c1 => ?_) (fun c1 => ?_)
    · skip
      refine tl_ret rfl ?_
      -- leaf 0 at 166
      have e : i = V.length := by omega
      subst e
      exact hP mem ⟨kW, fr⟩
    · show jT _ _ 43 _ _ _ _
      show jT _ _ 43 _ _ _ _
      refine tl_aload_n rfl rfl ?_
      refine tl_getr (c := 5) (k9 := 4) (b := 379) rfl rfl rfl rfl ?_
      refine tl_iload rfl rfl ?_
      refine tl_v1i (c9 := 8) (c_Row_get l R379 mem (i : Int) (by rw [o1]; omega) (by rw [o1]; omega) ⟨by omega, by omega⟩) rfl rfl rfl rfl rfl (Nat.le_of_ble_eq_true rfl) (fun z1 h1 p1 => ?_)
      obtain ⟨q1, p1⟩ := p1
      have q1 := q1.symm
      subst q1
      rw [o1, if_pos (by omega), Int.toNat_natCast, o2 i (by omega)] at p1
      subst p1
      refine tl_istore rfl (Nat.le_of_ble_eq_true rfl) rfl ?_
      refine tl_iload rfl rfl ?_
      refine tl_iconst rfl ?_
      show jT _ _ 57 _ _ _ _
      refine tl_icmp_eq (tgt := 160) rfl rfl ⟨by omega, by omega⟩ ⟨by omega, by omega⟩ (fun c2 => ?_) (fun c2 => ?_)
      · skip
        refine tl_iinc rfl rfl rfl ?_
        refine tl_goto (tgt := 31) rfl rfl ?_
        show jT _ _ 31 _ _ _ _
        -- leaf 1 at 31
        have e : svC V R (i + 1) = svC V R i := by rw [svC, svO, if_neg (fun w => by omega)]
        refine ih (i + 1) mem _ (by omega) ⟨by omega, by rw [e]; exact kW, kT, fr⟩
      · show jT _ _ 60 _ _ _ _
        refine tl_iload rfl rfl ?_
        refine tl_aload_n rfl rfl ?_
        refine tl_iload rfl rfl ?_
        refine tl_v1i (c9 := 8) (c_Row_get l hS mem ((i : Int)) (by rw [n1]; omega) (by rw [n1]; omega) ⟨by omega, by omega⟩) rfl rfl rfl hS.1 rfl (Nat.le_of_ble_eq_true rfl) (fun z2 h2 p2 => ?_)
        obtain ⟨q2, p2⟩ := p2
        have q2 := q2.symm
        subst q2
        rw [n1, if_pos (by omega), show ((i : Int)).toNat = i by omega, av i (by omega)] at p2
        have y2 := hV.gd (i := i) (by omega)
        have y2a := y2.1
        have y2b := y2.2
        subst p2
        show jT _ _ 68 _ _ _ _
        refine tl_icmp_eq (tgt := 160) rfl rfl ⟨by omega, by omega⟩ ⟨by omega, by omega⟩ (fun c3 => ?_) (fun c3 => ?_)
        · skip
          refine tl_iinc rfl rfl rfl ?_
          refine tl_goto (tgt := 31) rfl rfl ?_
          show jT _ _ 31 _ _ _ _
          -- leaf 2 at 31
          have e : svC V R (i + 1) = svC V R i := by rw [svC, svO, if_neg (fun w => by have := (svP_t.mp w.2).1; omega)]
          refine ih (i + 1) mem _ (by omega) ⟨by omega, by rw [e]; exact kW, kT, fr⟩
        · show jT _ _ 71 _ _ _ _
          refine tl_aload_n rfl rfl ?_
          refine tl_getr (c := 5) (k9 := 5) (b := 381) rfl rfl rfl rfl ?_
          refine tl_iload rfl rfl ?_
          refine tl_iload rfl rfl ?_
          show jT _ _ 79 _ _ _ _
          refine tl_v2v (c9 := 8) (c_Row_change l R381 mem (i : Int) (oth V i) (by rw [kT1]; omega) (by rw [kT1]; omega) ⟨by omega, by omega⟩) rfl rfl rfl rfl rfl (Nat.le_of_ble_eq_true rfl) (fun h3 p3 => ?_)
          rw [kT1, if_pos (by omega), Int.toNat_natCast] at p3
          subst p3
          refine tl_aload_n rfl rfl ?_
          refine tl_aload_n rfl rfl ?_
          refine tl_getr (c := 5) (k9 := 5) (b := 381) rfl rfl rfl rfl ?_
          refine tl_aload_n rfl rfl ?_
          refine tl_iconst rfl ?_
          refine tl_v3i (c9 := 6) (k_read l R381 (by decide) (hs mem 382 i (oth V i)) R (hR.of (fun x x1 x2 => by rw [hs_O (by omega)]; exact fr x (by omega) (by omega) (by omega) (by omega))) (V.set i (oth V i)) (kT.set (by decide) (by omega)) (hV.set ⟨by omega, by omega⟩) (by rw [List.length_set]; omega) (by rw [List.length_set]; omega) true) rfl rfl rfl rfl rfl (Nat.le_of_ble_eq_true rfl) (fun z4 h4 p4 => ?_)
          obtain ⟨e4, _, f4⟩ := p4
          have rb4 := rdF_b (V.set i (oth V i)) true R
          subst e4
          have t4 : RL h4 381 382 (V.set i (oth V i)) := (kT.set (v := oth V i) (by decide) (by omega)).of (f4 381 (by omega)) (f4 382 (by omega))
          have w0 : h4 377 0 = svC V R i 0 := by rw [f4 377 (by omega), hs_o (by decide)]; exact kW.1
          have w1 : h4 377 1 = svC V R i 1 := by rw [f4 377 (by omega), hs_o (by decide)]; exact kW.2.1
          have w2 : h4 377 2 = svC V R i 2 := by rw [f4 377 (by omega), hs_o (by decide)]; exact kW.2.2
          have n4 : h4 rp 1 = (V.length : Int) := by rw [f4 rp (by omega), hs_o (by omega)]; exact n1
          have a4 : h4 ap i = V.getD i 0 := by rw [f4 ap (by omega), hs_o (by omega)]; exact av i (by omega)
          show jT _ _ 92 _ _ _ _
          refine tl_if_ne (tgt := 145) rfl rfl ⟨by omega, by omega⟩ (fun c4 => ?_) (fun c4 => ?_)
          · skip
            show jT _ _ 145 _ _ _ _
            -- leaf 3 at 145
            refine tl_aload_n rfl rfl ?_
            refine tl_getr (c := 5) (k9 := 5) (b := 381) rfl rfl rfl rfl ?_
            refine tl_iload rfl rfl ?_
            refine tl_aload_n rfl rfl ?_
            refine tl_iload rfl rfl ?_
            refine tl_v1i (c9 := 8) (c_Row_get l hS _ (i : Int) (by rw [n4]; omega) (by rw [n4]; omega) ⟨by omega, by omega⟩) rfl rfl rfl hS.1 rfl (Nat.le_of_ble_eq_true rfl) (fun z9 hh p9 => ?_)
            obtain ⟨q9, p9⟩ := p9
            have q9 := q9.symm
            subst q9
            rw [n4, if_pos (by omega), Int.toNat_natCast, a4] at p9
            subst p9
            show jT _ _ 157 _ _ _ _
            refine tl_v2v (c9 := 8) (c_Row_change l R381 _ (i : Int) (V.getD i 0) (by rw [t4.1]; omega) (by rw [t4.1, List.length_set]; omega) ⟨by omega, by omega⟩) rfl rfl rfl rfl rfl (Nat.le_of_ble_eq_true rfl) (fun h8 p8 => ?_)
            rw [t4.1, List.length_set, if_pos (by omega), Int.toNat_natCast] at p8
            subst p8
            refine tl_iinc rfl rfl rfl ?_
            refine tl_goto (tgt := 31) rfl rfl ?_
            show jT _ _ 31 _ _ _ _
            -- leaf 0 at 31
            have e : svC V R (i + 1) = svC V R i := by rw [svC, svO, if_neg (fun w => by have := (svP_t.mp w.2).2; omega)]
            refine ih (i + 1) _ _ (by omega) ⟨by omega, by rw [e, hs_o (by decide), hs_o (by decide), hs_o (by decide)]; exact ⟨w0, w1, w2⟩, t4.set2 (by decide) (by omega), fun x x1 x2 x3 x4 => by rw [hs_O x4, f4 x x2, hs_O x4]; exact fr x x1 x2 x3 x4⟩
          · show jT _ _ 95 _ _ _ _
            show jT _ _ 95 _ _ _ _
            -- leaf 4 at 95
            refine tl_aload_n rfl rfl ?_
            refine tl_aload_n rfl rfl ?_
            refine tl_geti (c := 5) (k9 := 0) rfl rfl rfl ?_
            rw [w0]
            refine tl_if_ne (tgt := 108) rfl rfl ⟨by omega, by omega⟩ (fun c1 => ?_) (fun c1 => ?_)
            · skip
              refine tl_aload_n rfl rfl ?_
              refine tl_geti (c := 5) (k9 := 1) rfl rfl rfl ?_
              rw [w1]
              show jT _ _ 112 _ _ _ _
              refine tl_puti (c := 5) (k9 := 1) rfl rfl rfl rfl ?_
              refine tl_aload_n rfl rfl ?_
              refine tl_aload_n rfl rfl ?_
              refine tl_geti (c := 5) (k9 := 0) rfl rfl rfl ?_
              rw [hs_k (by decide), w0]
              refine tl_if_ne (tgt := 128) rfl rfl ⟨by omega, by omega⟩ (fun c2 => ?_) (fun c2 => ?_)
              · skip
                refine tl_aload_n rfl rfl ?_
                refine tl_geti (c := 5) (k9 := 2) rfl rfl rfl ?_
                rw [hs_k (by decide), w2]
                show jT _ _ 132 _ _ _ _
                refine tl_puti (c := 5) (k9 := 2) rfl rfl rfl rfl ?_
                refine tl_aload_n rfl rfl ?_
                refine tl_dup rfl rfl ?_
                refine tl_geti (c := 5) (k9 := 0) rfl rfl rfl ?_
                rw [hs_k (by decide), hs_k (by decide), w0]
                refine tl_iconst rfl ?_
                refine tl_iadd rfl ?_
                refine tl_puti (c := 5) (k9 := 0) rfl rfl rfl rfl ?_
                show jT _ _ 145 _ _ _ _
                refine tl_aload_n rfl rfl ?_
                refine tl_getr (c := 5) (k9 := 5) (b := 381) rfl rfl rfl rfl ?_
                refine tl_iload rfl rfl ?_
                refine tl_aload_n rfl rfl ?_
                refine tl_iload rfl rfl ?_
                refine tl_v1i (c9 := 8) (c_Row_get l hS _ (i : Int) (by rw [hs_o (by omega), hs_o (by omega), hs_o (by omega), n4]; omega) (by rw [hs_o (by omega), hs_o (by omega), hs_o (by omega), n4]; omega) ⟨by omega, by omega⟩) rfl rfl rfl hS.1 rfl (Nat.le_of_ble_eq_true rfl) (fun z9 hh p9 => ?_)
                obtain ⟨q9, p9⟩ := p9
                have q9 := q9.symm
                subst q9
                rw [hs_o (by omega), hs_o (by omega), hs_o (by omega), n4, if_pos (by omega), Int.toNat_natCast, hs_o (by omega), hs_o (by omega), hs_o (by omega), a4] at p9
                subst p9
                refine tl_v2v (c9 := 8) (c_Row_change l R381 _ (i : Int) (V.getD i 0) (by rw [hs_o (by omega), hs_o (by omega), hs_o (by omega), t4.1]; omega) (by rw [hs_o (by omega), hs_o (by omega), hs_o (by omega), t4.1, List.length_set]; omega) ⟨by omega, by omega⟩) rfl rfl rfl rfl rfl (Nat.le_of_ble_eq_true rfl) (fun h8 p8 => ?_)
                rw [hs_o (by omega), hs_o (by omega), hs_o (by omega), t4.1, List.length_set, if_pos (by omega), Int.toNat_natCast] at p8
                subst p8
                show jT _ _ 160 _ _ _ _
                refine tl_iinc rfl rfl rfl ?_
                refine tl_goto (tgt := 31) rfl rfl ?_
                show jT _ _ 31 _ _ _ _
                -- leaf 0 at 31
                have e : svC V R (i + 1) = svS (svC V R i) (i : Int) (oth V i) := by rw [svC, svO, if_pos ⟨by omega, svP_t.mpr ⟨by omega, by omega⟩⟩]
                first
                  | (exfalso; omega)
                  | (refine ih (i + 1) _ _ (by omega) ⟨by omega, ?_, RL.set2 (v := oth V i) (t4.of (by rw [hs_O (by decide), hs_O (by decide), hs_O (by decide)]) (by rw [hs_O (by decide), hs_O (by decide), hs_O (by decide)])) (by decide) (by omega), fun x x1 x2 x3 x4 => by rw [hs_O x4, hs_O x1, hs_O x1, hs_O x1, f4 x x2, hs_O x4]; exact fr x x1 x2 x3 x4⟩
                     rw [e]
                     refine ⟨?_, ?_, ?_⟩
                     · rw [hs_o (by decide), hs_s]; rfl
                     · rw [hs_o (by decide), hs_k (by decide), hs_k (by decide), hs_s]; show _ = (if svC V R i 0 = 0 then (i : Int) else svC V R i 1); first | rw [if_pos (by omega)] | rw [if_neg (by omega)]
                     · rw [hs_o (by decide), hs_k (by decide), hs_s]; show _ = (if svC V R i 0 = 0 then oth V i else svC V R i 2); first | rw [if_pos (by omega)] | rw [if_neg (by omega)])
              · show jT _ _ 123 _ _ _ _
                refine tl_iload rfl rfl ?_
                refine tl_goto (tgt := 132) rfl rfl ?_
                refine tl_puti (c := 5) (k9 := 2) rfl rfl rfl rfl ?_
                refine tl_aload_n rfl rfl ?_
                refine tl_dup rfl rfl ?_
                show jT _ _ 137 _ _ _ _
                refine tl_geti (c := 5) (k9 := 0) rfl rfl rfl ?_
                rw [hs_k (by decide), hs_k (by decide), w0]
                refine tl_iconst rfl ?_
                refine tl_iadd rfl ?_
                refine tl_puti (c := 5) (k9 := 0) rfl rfl rfl rfl ?_
                refine tl_aload_n rfl rfl ?_
                refine tl_getr (c := 5) (k9 := 5) (b := 381) rfl rfl rfl rfl ?_
                refine tl_iload rfl rfl ?_
                show jT _ _ 151 _ _ _ _
                refine tl_aload_n rfl rfl ?_
                refine tl_iload rfl rfl ?_
                refine tl_v1i (c9 := 8) (c_Row_get l hS _ (i : Int) (by rw [hs_o (by omega), hs_o (by omega), hs_o (by omega), n4]; omega) (by rw [hs_o (by omega), hs_o (by omega), hs_o (by omega), n4]; omega) ⟨by omega, by omega⟩) rfl rfl rfl hS.1 rfl (Nat.le_of_ble_eq_true rfl) (fun z9 hh p9 => ?_)
                obtain ⟨q9, p9⟩ := p9
                have q9 := q9.symm
                subst q9
                rw [hs_o (by omega), hs_o (by omega), hs_o (by omega), n4, if_pos (by omega), Int.toNat_natCast, hs_o (by omega), hs_o (by omega), hs_o (by omega), a4] at p9
                subst p9
                refine tl_v2v (c9 := 8) (c_Row_change l R381 _ (i : Int) (V.getD i 0) (by rw [hs_o (by omega), hs_o (by omega), hs_o (by omega), t4.1]; omega) (by rw [hs_o (by omega), hs_o (by omega), hs_o (by omega), t4.1, List.length_set]; omega) ⟨by omega, by omega⟩) rfl rfl rfl rfl rfl (Nat.le_of_ble_eq_true rfl) (fun h8 p8 => ?_)
                rw [hs_o (by omega), hs_o (by omega), hs_o (by omega), t4.1, List.length_set, if_pos (by omega), Int.toNat_natCast] at p8
                subst p8
                refine tl_iinc rfl rfl rfl ?_
                refine tl_goto (tgt := 31) rfl rfl ?_
                show jT _ _ 31 _ _ _ _
                -- leaf 1 at 31
                have e : svC V R (i + 1) = svS (svC V R i) (i : Int) (oth V i) := by rw [svC, svO, if_pos ⟨by omega, svP_t.mpr ⟨by omega, by omega⟩⟩]
                first
                  | (exfalso; omega)
                  | (refine ih (i + 1) _ _ (by omega) ⟨by omega, ?_, RL.set2 (v := oth V i) (t4.of (by rw [hs_O (by decide), hs_O (by decide), hs_O (by decide)]) (by rw [hs_O (by decide), hs_O (by decide), hs_O (by decide)])) (by decide) (by omega), fun x x1 x2 x3 x4 => by rw [hs_O x4, hs_O x1, hs_O x1, hs_O x1, f4 x x2, hs_O x4]; exact fr x x1 x2 x3 x4⟩
                     rw [e]
                     refine ⟨?_, ?_, ?_⟩
                     · rw [hs_o (by decide), hs_s]; rfl
                     · rw [hs_o (by decide), hs_k (by decide), hs_k (by decide), hs_s]; show _ = (if svC V R i 0 = 0 then (i : Int) else svC V R i 1); first | rw [if_pos (by omega)] | rw [if_neg (by omega)]
                     · rw [hs_o (by decide), hs_k (by decide), hs_s]; show _ = (if svC V R i 0 = 0 then oth V i else svC V R i 2); first | rw [if_pos (by omega)] | rw [if_neg (by omega)])
            · show jT _ _ 103 _ _ _ _
              refine tl_iload rfl rfl ?_
              show jT _ _ 105 _ _ _ _
              refine tl_goto (tgt := 112) rfl rfl ?_
              refine tl_puti (c := 5) (k9 := 1) rfl rfl rfl rfl ?_
              refine tl_aload_n rfl rfl ?_
              refine tl_aload_n rfl rfl ?_
              refine tl_geti (c := 5) (k9 := 0) rfl rfl rfl ?_
              rw [hs_k (by decide), w0]
              refine tl_if_ne (tgt := 128) rfl rfl ⟨by omega, by omega⟩ (fun c3 => ?_) (fun c3 => ?_)
              · skip
                refine tl_aload_n rfl rfl ?_
                show jT _ _ 129 _ _ _ _
                refine tl_geti (c := 5) (k9 := 2) rfl rfl rfl ?_
                rw [hs_k (by decide), w2]
                refine tl_puti (c := 5) (k9 := 2) rfl rfl rfl rfl ?_
                refine tl_aload_n rfl rfl ?_
                refine tl_dup rfl rfl ?_
                refine tl_geti (c := 5) (k9 := 0) rfl rfl rfl ?_
                rw [hs_k (by decide), hs_k (by decide), w0]
                refine tl_iconst rfl ?_
                refine tl_iadd rfl ?_
                show jT _ _ 142 _ _ _ _
                refine tl_puti (c := 5) (k9 := 0) rfl rfl rfl rfl ?_
                refine tl_aload_n rfl rfl ?_
                refine tl_getr (c := 5) (k9 := 5) (b := 381) rfl rfl rfl rfl ?_
                refine tl_iload rfl rfl ?_
                refine tl_aload_n rfl rfl ?_
                refine tl_iload rfl rfl ?_
                refine tl_v1i (c9 := 8) (c_Row_get l hS _ (i : Int) (by rw [hs_o (by omega), hs_o (by omega), hs_o (by omega), n4]; omega) (by rw [hs_o (by omega), hs_o (by omega), hs_o (by omega), n4]; omega) ⟨by omega, by omega⟩) rfl rfl rfl hS.1 rfl (Nat.le_of_ble_eq_true rfl) (fun z9 hh p9 => ?_)
                obtain ⟨q9, p9⟩ := p9
                have q9 := q9.symm
                subst q9
                rw [hs_o (by omega), hs_o (by omega), hs_o (by omega), n4, if_pos (by omega), Int.toNat_natCast, hs_o (by omega), hs_o (by omega), hs_o (by omega), a4] at p9
                subst p9
                show jT _ _ 157 _ _ _ _
                refine tl_v2v (c9 := 8) (c_Row_change l R381 _ (i : Int) (V.getD i 0) (by rw [hs_o (by omega), hs_o (by omega), hs_o (by omega), t4.1]; omega) (by rw [hs_o (by omega), hs_o (by omega), hs_o (by omega), t4.1, List.length_set]; omega) ⟨by omega, by omega⟩) rfl rfl rfl rfl rfl (Nat.le_of_ble_eq_true rfl) (fun h8 p8 => ?_)
                rw [hs_o (by omega), hs_o (by omega), hs_o (by omega), t4.1, List.length_set, if_pos (by omega), Int.toNat_natCast] at p8
                subst p8
                refine tl_iinc rfl rfl rfl ?_
                refine tl_goto (tgt := 31) rfl rfl ?_
                show jT _ _ 31 _ _ _ _
                -- leaf 2 at 31
                have e : svC V R (i + 1) = svS (svC V R i) (i : Int) (oth V i) := by rw [svC, svO, if_pos ⟨by omega, svP_t.mpr ⟨by omega, by omega⟩⟩]
                first
                  | (exfalso; omega)
                  | (refine ih (i + 1) _ _ (by omega) ⟨by omega, ?_, RL.set2 (v := oth V i) (t4.of (by rw [hs_O (by decide), hs_O (by decide), hs_O (by decide)]) (by rw [hs_O (by decide), hs_O (by decide), hs_O (by decide)])) (by decide) (by omega), fun x x1 x2 x3 x4 => by rw [hs_O x4, hs_O x1, hs_O x1, hs_O x1, f4 x x2, hs_O x4]; exact fr x x1 x2 x3 x4⟩
                     rw [e]
                     refine ⟨?_, ?_, ?_⟩
                     · rw [hs_o (by decide), hs_s]; rfl
                     · rw [hs_o (by decide), hs_k (by decide), hs_k (by decide), hs_s]; show _ = (if svC V R i 0 = 0 then (i : Int) else svC V R i 1); first | rw [if_pos (by omega)] | rw [if_neg (by omega)]
                     · rw [hs_o (by decide), hs_k (by decide), hs_s]; show _ = (if svC V R i 0 = 0 then oth V i else svC V R i 2); first | rw [if_pos (by omega)] | rw [if_neg (by omega)])
              · show jT _ _ 123 _ _ _ _
                refine tl_iload rfl rfl ?_
                refine tl_goto (tgt := 132) rfl rfl ?_
                refine tl_puti (c := 5) (k9 := 2) rfl rfl rfl rfl ?_
                refine tl_aload_n rfl rfl ?_
                show jT _ _ 136 _ _ _ _
                refine tl_dup rfl rfl ?_
                refine tl_geti (c := 5) (k9 := 0) rfl rfl rfl ?_
                rw [hs_k (by decide), hs_k (by decide), w0]
                refine tl_iconst rfl ?_
                refine tl_iadd rfl ?_
                refine tl_puti (c := 5) (k9 := 0) rfl rfl rfl rfl ?_
                refine tl_aload_n rfl rfl ?_
                refine tl_getr (c := 5) (k9 := 5) (b := 381) rfl rfl rfl rfl ?_
                show jT _ _ 149 _ _ _ _
                refine tl_iload rfl rfl ?_
                refine tl_aload_n rfl rfl ?_
                refine tl_iload rfl rfl ?_
                refine tl_v1i (c9 := 8) (c_Row_get l hS _ (i : Int) (by rw [hs_o (by omega), hs_o (by omega), hs_o (by omega), n4]; omega) (by rw [hs_o (by omega), hs_o (by omega), hs_o (by omega), n4]; omega) ⟨by omega, by omega⟩) rfl rfl rfl hS.1 rfl (Nat.le_of_ble_eq_true rfl) (fun z9 hh p9 => ?_)
                obtain ⟨q9, p9⟩ := p9
                have q9 := q9.symm
                subst q9
                rw [hs_o (by omega), hs_o (by omega), hs_o (by omega), n4, if_pos (by omega), Int.toNat_natCast, hs_o (by omega), hs_o (by omega), hs_o (by omega), a4] at p9
                subst p9
                refine tl_v2v (c9 := 8) (c_Row_change l R381 _ (i : Int) (V.getD i 0) (by rw [hs_o (by omega), hs_o (by omega), hs_o (by omega), t4.1]; omega) (by rw [hs_o (by omega), hs_o (by omega), hs_o (by omega), t4.1, List.length_set]; omega) ⟨by omega, by omega⟩) rfl rfl rfl rfl rfl (Nat.le_of_ble_eq_true rfl) (fun h8 p8 => ?_)
                rw [hs_o (by omega), hs_o (by omega), hs_o (by omega), t4.1, List.length_set, if_pos (by omega), Int.toNat_natCast] at p8
                subst p8
                refine tl_iinc rfl rfl rfl ?_
                refine tl_goto (tgt := 31) rfl rfl ?_
                show jT _ _ 31 _ _ _ _
                -- leaf 3 at 31
                have e : svC V R (i + 1) = svS (svC V R i) (i : Int) (oth V i) := by rw [svC, svO, if_pos ⟨by omega, svP_t.mpr ⟨by omega, by omega⟩⟩]
                first
                  | (exfalso; omega)
                  | (refine ih (i + 1) _ _ (by omega) ⟨by omega, ?_, RL.set2 (v := oth V i) (t4.of (by rw [hs_O (by decide), hs_O (by decide), hs_O (by decide)]) (by rw [hs_O (by decide), hs_O (by decide), hs_O (by decide)])) (by decide) (by omega), fun x x1 x2 x3 x4 => by rw [hs_O x4, hs_O x1, hs_O x1, hs_O x1, f4 x x2, hs_O x4]; exact fr x x1 x2 x3 x4⟩
                     rw [e]
                     refine ⟨?_, ?_, ?_⟩
                     · rw [hs_o (by decide), hs_s]; rfl
                     · rw [hs_o (by decide), hs_k (by decide), hs_k (by decide), hs_s]; show _ = (if svC V R i 0 = 0 then (i : Int) else svC V R i 1); first | rw [if_pos (by omega)] | rw [if_neg (by omega)]
                     · rw [hs_o (by decide), hs_k (by decide), hs_s]; show _ = (if svC V R i 0 = 0 then oth V i else svC V R i 2); first | rw [if_pos (by omega)] | rw [if_neg (by omega)])
set_option maxRecDepth 20000 in
set_option maxHeartbeats 1000000 in
theorem k_findSaves (l : Launch) {rp ap : Nat} (hS : RowS rp ap 300) (hD : (rp < 339 ∨ 382 < rp) ∧ (ap < 339 ∨ 382 < ap)) (h : jH) (V : List Int) (kV : RL h rp ap V) (hV : LB V) (v3 : V.length ≤ 300) (R : Nat → Int) (hR : RS h 1 R) (l1 : 1 ≤ V.length) : cV l 62 [.ref 377, .ref rp, .ref 2, .ref 339] h (fun h' => (h' 377 0 = svC V R V.length 0 ∧ h' 377 1 = svC V R V.length 1 ∧ h' 377 2 = svC V R V.length 2) ∧ ∀ x, (x < 339 ∨ 355 < x) → (x < 377 ∨ 382 < x) → h' x = h x) := by
  have hS1 := hS.2.2.2
  refine cV.of rfl rfl ?_
  refine tl_aload_n rfl rfl ?_
  refine tl_iconst rfl ?_
  refine tl_puti (c := 5) (k9 := 0) rfl rfl rfl rfl ?_
  refine tl_aload_n rfl rfl ?_
  refine tl_iconst rfl ?_
  refine tl_puti (c := 5) (k9 := 1) rfl rfl rfl rfl ?_
  show jT _ _ 10 _ _ _ _
  refine tl_aload_n rfl rfl ?_
  refine tl_iconst rfl ?_
  refine tl_puti (c := 5) (k9 := 2) rfl rfl rfl rfl ?_
  refine tl_aload_n rfl rfl ?_
  refine tl_aload_n rfl rfl ?_
  refine tl_v1v (c9 := 5) (k_findOthers l hS hD _ V (kV.of (by rw [hs_O (by omega), hs_O (by omega), hs_O (by omega)]) (by rw [hs_O (by omega), hs_O (by omega), hs_O (by omega)])) hV v3 l1) rfl rfl rfl rfl rfl (Nat.le_of_ble_eq_true rfl) (fun h1 p1 => ?_)
  obtain ⟨o1, o2, f1⟩ := p1
  refine tl_aload_n rfl rfl ?_
  show jT _ _ 21 _ _ _ _
  refine tl_getr (c := 5) (k9 := 5) (b := 381) rfl rfl rfl rfl ?_
  refine tl_aload_n rfl rfl ?_
  refine tl_v1v (c9 := 8) (k_rowCopy l R381 hS (by omega) h1 V (kV.of (by rw [f1 rp (by omega) (by omega), hs_O (by omega), hs_O (by omega), hs_O (by omega)]) (by rw [f1 ap (by omega) (by omega), hs_O (by omega), hs_O (by omega), hs_O (by omega)])) (by omega) (by omega)) rfl rfl rfl rfl rfl (Nat.le_of_ble_eq_true rfl) (fun h2 p2 => ?_)
  obtain ⟨kT, f2⟩ := p2
  refine tl_iconst rfl ?_
  refine tl_istore rfl (Nat.le_of_ble_eq_true rfl) rfl ?_
  show jT _ _ 31 _ _ _ _
  -- leaf 0 at 31
  have fx : ∀ x, x ≠ 377 → x ≠ 379 → x ≠ 380 → x ≠ 381 → x ≠ 382 → h2 x = h x := fun x a b c d e => by rw [f2 x d e, f1 x b c, hs_O a, hs_O a, hs_O a]
  refine k_fs_lp l hS hD h2 V (kV.of (fx rp (by omega) (by omega) (by omega) (by omega) (by omega)) (fx ap (by omega) (by omega) (by omega) (by omega) (by omega))) hV v3 R (hR.of (fun x x1 x2 => fx x (by omega) (by omega) (by omega) (by omega) (by omega))) trivial ⟨by rw [f2 379 (by decide) (by decide)]; exact o1, fun q hq => by rw [f2 380 (by decide) (by decide)]; exact o2 q hq⟩ _ (fun mem hz => ⟨rfl, hz.1, fun x x1 x2 => by rw [hz.2 x (by omega) x1 (by omega) (by omega)]; exact fx x (by omega) (by omega) (by omega) (by omega) (by omega)⟩) _ 0 h2 _ (Nat.lt_succ_self _) ⟨Nat.zero_le _, ⟨?_, ?_, ?_⟩, kT, fun _ _ _ _ _ => rfl⟩
  · rw [f2 377 (by decide) (by decide), f1 377 (by decide) (by decide), hs_k (by decide), hs_k (by decide), hs_s]; rfl
  · rw [f2 377 (by decide) (by decide), f1 377 (by decide) (by decide), hs_k (by decide), hs_s]; rfl
  · rw [f2 377 (by decide) (by decide), f1 377 (by decide) (by decide), hs_s]; rfl
set_option maxRecDepth 20000 in
set_option maxHeartbeats 1000000 in
theorem k_save (l : Launch) (h s : jH) (t k w : Int) (hI : IC h s t) (hk : jr k) (hw9 : jr w) : cI l 181 [.ref 0, .int (jI k), .int (jI w)] h (PK h t (Dsave s k w)) := by
  have k1 := hk.1
  have k2 := hk.2
  have w1 := hw9.1
  have w2 := hw9.2
  refine cI.of rfl rfl ?_
  refine tl_iload_n rfl rfl ?_
  refine tl_if_lt (tgt := 17) rfl rfl ⟨by omega, by omega⟩ (fun c1 => ?_) (fun c1 => ?_)
  · skip
    refine tl_iconst rfl ?_
    refine tl_iret rfl ?_
    -- leaf 0 at 18
    refine ⟨_, rfl, ?_⟩
    have e : Asv (s 390) k w = -1 := by
      rw [Asv, if_neg (fun q => ?_)]
      first | (exfalso; omega) | (rw [if_pos q.2] at pf; omega)
    rw [Dsave, e]
    exact PK.rd hI KF.rfl'
  · show jT _ _ 4 _ _ _ _
    refine tl_iload_n rfl rfl ?_
    refine tl_iconst rfl ?_
    show jT _ _ 6 _ _ _ _
    refine tl_icmp_gt (tgt := 17) rfl rfl ⟨by omega, by omega⟩ ⟨by omega, by omega⟩ (fun c2 => ?_) (fun c2 => ?_)
    · skip
      refine tl_iconst rfl ?_
      refine tl_iret rfl ?_
      -- leaf 1 at 18
      refine ⟨_, rfl, ?_⟩
      have e : Asv (s 390) k w = -1 := by
        rw [Asv, if_neg (fun q => ?_)]
        first | (exfalso; omega) | (rw [if_pos q.2] at pf; omega)
      rw [Dsave, e]
      exact PK.rd hI KF.rfl'
    · show jT _ _ 9 _ _ _ _
      refine tl_aload_n rfl rfl ?_
      refine tl_iload_n rfl rfl ?_
      refine tl_v1i (c9 := 11) (k_isFull l _ _ hI.1 k ⟨by omega, by omega⟩) rfl rfl rfl rfl rfl (Nat.le_of_ble_eq_true rfl) (fun zf hf pf => ?_)
      obtain ⟨qf, pf⟩ := pf
      have qf := qf.symm
      subst qf
      have bf : zf = 0 ∨ zf = 1 := by rw [pf]; split <;> omega
      refine tl_if_ne (tgt := 19) rfl rfl ⟨by omega, by omega⟩ (fun c3 => ?_) (fun c3 => ?_)
      · skip
        have cf : (0 ≤ k ∧ k ≤ 2) ∧ s 390 (200 + 301 * k).toNat ≠ -1 := by
          by_cases c : (0 ≤ k ∧ k ≤ 2) ∧ s 390 (200 + 301 * k).toNat ≠ -1
          · exact c
          · rw [if_neg c] at pf; omega
        have hS := RSs_S k.toNat (by omega)
        have sb := hI.sok.b cf.1.1 cf.1.2 cf.2
        show jT _ _ 19 _ _ _ _
        refine tl_aload_n rfl rfl ?_
        refine tl_getr (c := 11) (k9 := 17) (b := 377) rfl rfl rfl rfl ?_
        refine tl_aload_n rfl rfl ?_
        refine tl_getr (c := 11) (k9 := 0) (b := 1) rfl rfl rfl rfl ?_
        refine tl_getr (c := 9) (k9 := 3) (b := 8) rfl rfl rfl rfl ?_
        refine tl_iload_n rfl rfl ?_
        refine tl_aald (n := 3) rfl (Or.inl rfl) rfl (by omega) (by omega) (sr8 k.toNat (by omega)) ?_
        show jT _ _ 32 _ _ _ _
        refine tl_aload_n rfl rfl ?_
        refine tl_getr (c := 11) (k9 := 0) (b := 1) rfl rfl rfl rfl ?_
        refine tl_getr (c := 9) (k9 := 0) (b := 2) rfl rfl rfl rfl ?_
        refine tl_aload_n rfl rfl ?_
        refine tl_getr (c := 11) (k9 := 13) (b := 339) rfl rfl rfl rfl ?_
        refine tl_v3v (c9 := 5) (k_findSaves l hS ⟨by omega, by omega⟩ h (slL (s 390) k) (hI.1.sl cf.1.1 cf.1.2 cf.2) sb.1 sb.2.2.2 (s 390) hI.1 sb.2.2.1) rfl rfl rfl rfl rfl (Nat.le_of_ble_eq_true rfl) (fun h1 p1 => ?_)
        obtain ⟨g1, f1⟩ := p1
        refine tl_iload_n rfl rfl ?_
        show jT _ _ 47 _ _ _ _
        refine tl_if_ne (tgt := 60) rfl rfl ⟨by omega, by omega⟩ (fun c4 => ?_) (fun c4 => ?_)
        · skip
          refine tl_iload_n rfl rfl ?_
          refine tl_iconst rfl ?_
          refine tl_icmp_ne (tgt := 75) rfl rfl ⟨by omega, by omega⟩ ⟨by omega, by omega⟩ (fun c5 => ?_) (fun c5 => ?_)
          · skip
            refine tl_aload_n rfl rfl ?_
            refine tl_getr (c := 11) (k9 := 17) (b := 377) rfl rfl rfl rfl ?_
            refine tl_geti (c := 5) (k9 := 2) rfl rfl rfl ?_
            rw [g1.2.2]
            show jT _ _ 82 _ _ _ _
            refine tl_iret rfl ?_
            -- leaf 2 at 82
            first
              | (refine ⟨_, rfl, ?_⟩
                 have e : Asv (s 390) k w = svC (slL (s 390) k) (s 390) (slL (s 390) k).length 1 := by rw [Asv, if_pos ⟨by omega, cf⟩, show w.toNat = 1 by omega]
                 rw [Dsave, e]
                 exact PK.rd hI (KF.of (fun x hx => f1 x (by omega) (by omega))))
              | (refine ⟨_, rfl, ?_⟩
                 have e : Asv (s 390) k w = svC (slL (s 390) k) (s 390) (slL (s 390) k).length 2 := by rw [Asv, if_pos ⟨by omega, cf⟩, show w.toNat = 2 by omega]
                 rw [Dsave, e]
                 exact PK.rd hI (KF.of (fun x hx => f1 x (by omega) (by omega))))
          · show jT _ _ 65 _ _ _ _
            refine tl_aload_n rfl rfl ?_
            refine tl_getr (c := 11) (k9 := 17) (b := 377) rfl rfl rfl rfl ?_
            refine tl_geti (c := 5) (k9 := 1) rfl rfl rfl ?_
            rw [g1.2.1]
            refine tl_goto (tgt := 82) rfl rfl ?_
            refine tl_iret rfl ?_
            -- leaf 3 at 82
            first
              | (refine ⟨_, rfl, ?_⟩
                 have e : Asv (s 390) k w = svC (slL (s 390) k) (s 390) (slL (s 390) k).length 1 := by rw [Asv, if_pos ⟨by omega, cf⟩, show w.toNat = 1 by omega]
                 rw [Dsave, e]
                 exact PK.rd hI (KF.of (fun x hx => f1 x (by omega) (by omega))))
              | (refine ⟨_, rfl, ?_⟩
                 have e : Asv (s 390) k w = svC (slL (s 390) k) (s 390) (slL (s 390) k).length 2 := by rw [Asv, if_pos ⟨by omega, cf⟩, show w.toNat = 2 by omega]
                 rw [Dsave, e]
                 exact PK.rd hI (KF.of (fun x hx => f1 x (by omega) (by omega))))
        · show jT _ _ 50 _ _ _ _
          refine tl_aload_n rfl rfl ?_
          show jT _ _ 51 _ _ _ _
          refine tl_getr (c := 11) (k9 := 17) (b := 377) rfl rfl rfl rfl ?_
          refine tl_geti (c := 5) (k9 := 0) rfl rfl rfl ?_
          rw [g1.1]
          refine tl_goto (tgt := 82) rfl rfl ?_
          refine tl_iret rfl ?_
          -- leaf 4 at 82
          refine ⟨_, rfl, ?_⟩
          have e : Asv (s 390) k w = svC (slL (s 390) k) (s 390) (slL (s 390) k).length 0 := by rw [Asv, if_pos ⟨by omega, cf⟩, show w.toNat = 0 by omega]
          rw [Dsave, e]
          exact PK.rd hI (KF.of (fun x hx => f1 x (by omega) (by omega)))
      · show jT _ _ 17 _ _ _ _
        refine tl_iconst rfl ?_
        refine tl_iret rfl ?_
        -- leaf 5 at 18
        refine ⟨_, rfl, ?_⟩
        have e : Asv (s 390) k w = -1 := by
          rw [Asv, if_neg (fun q => ?_)]
          first | (exfalso; omega) | (rw [if_pos q.2] at pf; omega)
        rw [Dsave, e]
        exact PK.rd hI KF.rfl'
