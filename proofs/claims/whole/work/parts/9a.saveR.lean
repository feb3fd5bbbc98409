/-! save, of the reference -/
theorem r_readToldN (l : Launch) (h : jH) (V : List Int) (hV : LB V) (v3 : V.length ≤ 300) (kT : ∀ i, i < V.length → h 407 i = V.getD i 0) (fo : Bool) (R : Nat → Int) (e390 : h 390 = R) (ok : Rok R) (n : Nat) (hn : V.length = n) : cI l 289 [.ref 388, .int (jI (n : Int)), .int (jI (zb fo))] h (fun z h' => z = rdF V fo R ∧ FT9 h h') := by
  subst hn
  obtain ⟨v, h', ⟨z, e, p⟩, q⟩ := r_readTold l h V hV v3 kT fo R e390 ok
  exact ⟨v, h', ⟨z, e, p.1, p.2.2⟩, q⟩
theorem sealed_k {V : List Int} (l2 : 2 ≤ V.length) {i : Nat} (hi : i < V.length) {v : Int} (h : ckf (V.set i v) = 0) : (i < V.length - 2 → V.getD (V.length - 2) 0 * 256 + V.getD (V.length - 1) 0 = (ckF (TB V) (V.length - 2) + (v - V.getD i 0) * wgt (V.length - 3 - i)) % 257) ∧ (i = V.length - 2 → v * 256 + V.getD (V.length - 1) 0 = ckF (TB V) (V.length - 2)) ∧ (i = V.length - 1 → V.getD (V.length - 2) 0 * 256 + v = ckF (TB V) (V.length - 2)) := by
  unfold ckf at h
  rw [List.length_set, if_neg (by omega)] at h
  have k : (V.set i v).getD (V.length - 2) 0 * 256 + (V.set i v).getD (V.length - 1) 0 = ckF (TB (V.set i v)) (V.length - 2) := by
    by_cases c : (V.set i v).getD (V.length - 2) 0 * 256 + (V.set i v).getD (V.length - 1) 0 = ckF (TB (V.set i v)) (V.length - 2)
    · exact c
    · rw [if_neg c] at h; exact absurd h (by decide)
  rw [TB_set hi, gd_set hi, gd_set hi] at k
  refine ⟨fun a => ?_, fun a => ?_, fun a => ?_⟩
  · rw [if_neg (by omega), if_neg (by omega)] at k
    have u := ck_w (f := TB V) (i := i) (v := v) (V.length - 3 - i)
    rw [show i + 1 + (V.length - 3 - i) = V.length - 2 by omega, ← k] at u
    exact u.symm
  · rw [if_pos a.symm, if_neg (by omega), ck_low _ (by omega)] at k; exact k
  · rw [if_neg (by omega), if_pos a.symm, ck_low _ (by omega)] at k; exact k
theorem mul_b {y w : Int} (h1 : -255 ≤ y) (h2 : y ≤ 255) (w0 : 0 ≤ w) (w1 : w ≤ 256) : -65280 ≤ y * w ∧ y * w ≤ 65280 := by
  have a := Int.mul_le_mul_of_nonneg_right h2 w0
  have b := Int.mul_le_mul_of_nonneg_right h1 w0
  omega
set_option maxRecDepth 20000 in
set_option maxHeartbeats 1000000 in
theorem r_isSealed (l : Launch) (h : jH) (V : List Int) (hV : LB V) (v3 : V.length ≤ 300) (l2 : 2 ≤ V.length) (kT : ∀ q, q < V.length → h 407 q = V.getD q 0) (i : Nat) (hi : i < V.length) (wg : Int) (hwg : wg = if i < V.length - 2 then wgt (V.length - 3 - i) else 0) (v : Int) (hv : 0 ≤ v ∧ v ≤ 255) : cI l 348 [.ref 388, .int (jI (V.length : Int)), .int (jI (ckF (TB V) (V.length - 2))), .int (jI (i : Int)), .int (jI wg), .int (jI v)] h (fun z h' => h' = h ∧ (z = 0 ∨ z = 1) ∧ (ckf (V.set i v) = 0 → z = 1)) := by
  have cb := ckF_b (TB V) (V.length - 2)
  have y1 := hV.gd (i := V.length - 2) (by omega)
  have y2 := hV.gd (i := V.length - 1) (by omega)
  have y3 := hV.gd (i := i) hi
  have y11 := y1.1
  have y12 := y1.2
  have y21 := y2.1
  have y22 := y2.2
  have y31 := y3.1
  have y32 := y3.2
  have wb := wgt_b (V.length - 3 - i)
  have wgb : 0 ≤ wg ∧ wg ≤ 256 := by rw [hwg]; split <;> omega
  have pb := mul_b (y := v - V.getD i 0) (w := wg) (by omega) (by omega) wgb.1 wgb.2
  have tm := tmod257 ((ckF (TB V) (V.length - 2)) + (v - V.getD i 0) * wg)
  have ew : i < V.length - 2 → (v - V.getD i 0) * wg = (v - V.getD i 0) * wgt (V.length - 3 - i) := fun c => by rw [hwg, if_pos c]
  refine cI.ofZ rfl rfl ?_
  refine tl_iload_n rfl rfl ?_
  refine tl_iload_n rfl rfl ?_
  refine tl_iconst rfl ?_
  refine tl_isub rfl ?_
  refine tl_icmp_ne (tgt := 12) rfl rfl ⟨by omega, by omega⟩ ⟨by omega, by omega⟩ (fun c1 => ?_) (fun c1 => ?_)
  · skip
    refine tl_aload_n rfl rfl ?_
    show jT _ _ 13 _ _ _ _
    refine tl_getr (c := 12) (k9 := 30) (b := 407) rfl rfl rfl rfl ?_
    refine tl_iload_n rfl rfl ?_
    refine tl_iconst rfl ?_
    refine tl_isub rfl ?_
    refine tl_iald (n := 300) rfl rfl rfl (by omega) (by omega) ?_
    rw [show ((V.length : Int) - 2).toNat = V.length - 2 by omega, kT _ (by omega)]
    refine tl_istore rfl (Nat.le_of_ble_eq_true rfl) rfl ?_
    refine tl_iload_n rfl rfl ?_
    show jT _ _ 23 _ _ _ _
    refine tl_iload_n rfl rfl ?_
    refine tl_iconst rfl ?_
    refine tl_isub rfl ?_
    refine tl_icmp_ne (tgt := 34) rfl rfl ⟨by omega, by omega⟩ ⟨by omega, by omega⟩ (fun c2 => ?_) (fun c2 => ?_)
    · skip
      refine tl_aload_n rfl rfl ?_
      refine tl_getr (c := 12) (k9 := 30) (b := 407) rfl rfl rfl rfl ?_
      refine tl_iload_n rfl rfl ?_
      show jT _ _ 39 _ _ _ _
      refine tl_iconst rfl ?_
      refine tl_isub rfl ?_
      refine tl_iald (n := 300) rfl rfl rfl (by omega) (by omega) ?_
      rw [show ((V.length : Int) - 1).toNat = V.length - 1 by omega, kT _ (by omega)]
      refine tl_istore rfl (Nat.le_of_ble_eq_true rfl) rfl ?_
      refine tl_iload_n rfl rfl ?_
      refine tl_iload_n rfl rfl ?_
      refine tl_iconst rfl ?_
      show jT _ _ 47 _ _ _ _
      refine tl_isub rfl ?_
      refine tl_icmp_ge (tgt := 80) rfl rfl ⟨by omega, by omega⟩ ⟨by omega, by omega⟩ (fun c3 => ?_) (fun c3 => ?_)
      · skip
        refine tl_iload_n rfl rfl ?_
        refine tl_istore rfl (Nat.le_of_ble_eq_true rfl) rfl ?_
        refine tl_sipush rfl rfl ?_
        refine tl_iload rfl rfl ?_
        refine tl_imul rfl ?_
        show jT _ _ 89 _ _ _ _
        refine tl_iload rfl rfl ?_
        refine tl_iadd rfl ?_
        refine tl_iload rfl rfl ?_
        refine tl_icmp_ne (tgt := 101) rfl rfl ⟨by omega, by omega⟩ ⟨by omega, by omega⟩ (fun c4 => ?_) (fun c4 => ?_)
        · skip
          refine tl_iconst rfl ?_
          refine tl_iret rfl ?_
          -- leaf 0 at 102
          first
            | (refine ⟨1, rfl, by omega, rfl, by omega, fun w => ?_⟩
               have sk := sealed_k l2 hi w
               first
                 | rfl
                 | (exfalso
                    by_cases c1 : i < V.length - 2
                    · have := sk.1 c1; omega
                    · by_cases c2 : i = V.length - 2
                      · have := sk.2.1 c2; omega
                      · have := sk.2.2 (by omega); omega))
            | (refine ⟨0, rfl, by omega, rfl, by omega, fun w => ?_⟩
               have sk := sealed_k l2 hi w
               first
                 | rfl
                 | (exfalso
                    by_cases c1 : i < V.length - 2
                    · have := sk.1 c1; omega
                    · by_cases c2 : i = V.length - 2
                      · have := sk.2.1 c2; omega
                      · have := sk.2.2 (by omega); omega))
        · show jT _ _ 97 _ _ _ _
          refine tl_iconst rfl ?_
          show jT _ _ 98 _ _ _ _
          refine tl_goto (tgt := 102) rfl rfl ?_
          refine tl_iret rfl ?_
          -- leaf 1 at 102
          first
            | (refine ⟨1, rfl, by omega, rfl, by omega, fun w => ?_⟩
               have sk := sealed_k l2 hi w
               first
                 | rfl
                 | (exfalso
                    by_cases c1 : i < V.length - 2
                    · have := sk.1 c1; omega
                    · by_cases c2 : i = V.length - 2
                      · have := sk.2.1 c2; omega
                      · have := sk.2.2 (by omega); omega))
            | (refine ⟨0, rfl, by omega, rfl, by omega, fun w => ?_⟩
               have sk := sealed_k l2 hi w
               first
                 | rfl
                 | (exfalso
                    by_cases c1 : i < V.length - 2
                    · have := sk.1 c1; omega
                    · by_cases c2 : i = V.length - 2
                      · have := sk.2.1 c2; omega
                      · have := sk.2.2 (by omega); omega))
      · show jT _ _ 51 _ _ _ _
        refine tl_iload_n rfl rfl ?_
        refine tl_iload rfl rfl ?_
        refine tl_aload_n rfl rfl ?_
        refine tl_getr (c := 12) (k9 := 30) (b := 407) rfl rfl rfl rfl ?_
        refine tl_iload_n rfl rfl ?_
        show jT _ _ 59 _ _ _ _
        refine tl_iald (n := 300) rfl rfl rfl (by omega) (by omega) ?_
        rw [Int.toNat_natCast, kT _ hi]
        refine tl_isub rfl ?_
        refine tl_iload rfl rfl ?_
        refine tl_imul rfl ?_
        refine tl_iadd rfl ?_
        refine tl_sipush rfl rfl ?_
        refine tl_iremT rfl ⟨by omega, by omega⟩ (by omega) (by omega) ?_
        show jT _ _ 69 _ _ _ _
        refine tl_sipush rfl rfl ?_
        refine tl_iadd rfl ?_
        refine tl_sipush rfl rfl ?_
        refine tl_irem rfl (by omega) (by omega) (by omega) (by omega) ?_
        refine tl_goto (tgt := 81) rfl rfl ?_
        refine tl_istore rfl (Nat.le_of_ble_eq_true rfl) rfl ?_
        refine tl_sipush rfl rfl ?_
        show jT _ _ 86 _ _ _ _
        refine tl_iload rfl rfl ?_
        refine tl_imul rfl ?_
        refine tl_iload rfl rfl ?_
        refine tl_iadd rfl ?_
        refine tl_iload rfl rfl ?_
        refine tl_icmp_ne (tgt := 101) rfl rfl ⟨by omega, by omega⟩ ⟨by omega, by omega⟩ (fun c5 => ?_) (fun c5 => ?_)
        · skip
          refine tl_iconst rfl ?_
          show jT _ _ 102 _ _ _ _
          refine tl_iret rfl ?_
          -- leaf 2 at 102
          first
            | (refine ⟨1, rfl, by omega, rfl, by omega, fun w => ?_⟩
               have sk := sealed_k l2 hi w
               first
                 | rfl
                 | (exfalso
                    by_cases c1 : i < V.length - 2
                    · have := sk.1 c1; omega
                    · by_cases c2 : i = V.length - 2
                      · have := sk.2.1 c2; omega
                      · have := sk.2.2 (by omega); omega))
            | (refine ⟨0, rfl, by omega, rfl, by omega, fun w => ?_⟩
               have sk := sealed_k l2 hi w
               first
                 | rfl
                 | (exfalso
                    by_cases c1 : i < V.length - 2
                    · have := sk.1 c1; omega
                    · by_cases c2 : i = V.length - 2
                      · have := sk.2.1 c2; omega
                      · have := sk.2.2 (by omega); omega))
        · show jT _ _ 97 _ _ _ _
          refine tl_iconst rfl ?_
          refine tl_goto (tgt := 102) rfl rfl ?_
          refine tl_iret rfl ?_
          -- leaf 3 at 102
          first
            | (refine ⟨1, rfl, by omega, rfl, by omega, fun w => ?_⟩
               have sk := sealed_k l2 hi w
               first
                 | rfl
                 | (exfalso
                    by_cases c1 : i < V.length - 2
                    · have := sk.1 c1; omega
                    · by_cases c2 : i = V.length - 2
                      · have := sk.2.1 c2; omega
                      · have := sk.2.2 (by omega); omega))
            | (refine ⟨0, rfl, by omega, rfl, by omega, fun w => ?_⟩
               have sk := sealed_k l2 hi w
               first
                 | rfl
                 | (exfalso
                    by_cases c1 : i < V.length - 2
                    · have := sk.1 c1; omega
                    · by_cases c2 : i = V.length - 2
                      · have := sk.2.1 c2; omega
                      · have := sk.2.2 (by omega); omega))
    · show jT _ _ 29 _ _ _ _
      refine tl_iload rfl rfl ?_
      refine tl_goto (tgt := 42) rfl rfl ?_
      refine tl_istore rfl (Nat.le_of_ble_eq_true rfl) rfl ?_
      show jT _ _ 44 _ _ _ _
      refine tl_iload_n rfl rfl ?_
      refine tl_iload_n rfl rfl ?_
      refine tl_iconst rfl ?_
      refine tl_isub rfl ?_
      refine tl_icmp_ge (tgt := 80) rfl rfl ⟨by omega, by omega⟩ ⟨by omega, by omega⟩ (fun c6 => ?_) (fun c6 => ?_)
      · skip
        refine tl_iload_n rfl rfl ?_
        refine tl_istore rfl (Nat.le_of_ble_eq_true rfl) rfl ?_
        show jT _ _ 83 _ _ _ _
        refine tl_sipush rfl rfl ?_
        refine tl_iload rfl rfl ?_
        refine tl_imul rfl ?_
        refine tl_iload rfl rfl ?_
        refine tl_iadd rfl ?_
        refine tl_iload rfl rfl ?_
        refine tl_icmp_ne (tgt := 101) rfl rfl ⟨by omega, by omega⟩ ⟨by omega, by omega⟩ (fun c7 => ?_) (fun c7 => ?_)
        · skip
          show jT _ _ 101 _ _ _ _
          refine tl_iconst rfl ?_
          refine tl_iret rfl ?_
          -- leaf 4 at 102
          first
            | (refine ⟨1, rfl, by omega, rfl, by omega, fun w => ?_⟩
               have sk := sealed_k l2 hi w
               first
                 | rfl
                 | (exfalso
                    by_cases c1 : i < V.length - 2
                    · have := sk.1 c1; omega
                    · by_cases c2 : i = V.length - 2
                      · have := sk.2.1 c2; omega
                      · have := sk.2.2 (by omega); omega))
            | (refine ⟨0, rfl, by omega, rfl, by omega, fun w => ?_⟩
               have sk := sealed_k l2 hi w
               first
                 | rfl
                 | (exfalso
                    by_cases c1 : i < V.length - 2
                    · have := sk.1 c1; omega
                    · by_cases c2 : i = V.length - 2
                      · have := sk.2.1 c2; omega
                      · have := sk.2.2 (by omega); omega))
        · show jT _ _ 97 _ _ _ _
          refine tl_iconst rfl ?_
          refine tl_goto (tgt := 102) rfl rfl ?_
          refine tl_iret rfl ?_
          -- leaf 5 at 102
          first
            | (refine ⟨1, rfl, by omega, rfl, by omega, fun w => ?_⟩
               have sk := sealed_k l2 hi w
               first
                 | rfl
                 | (exfalso
                    by_cases c1 : i < V.length - 2
                    · have := sk.1 c1; omega
                    · by_cases c2 : i = V.length - 2
                      · have := sk.2.1 c2; omega
                      · have := sk.2.2 (by omega); omega))
            | (refine ⟨0, rfl, by omega, rfl, by omega, fun w => ?_⟩
               have sk := sealed_k l2 hi w
               first
                 | rfl
                 | (exfalso
                    by_cases c1 : i < V.length - 2
                    · have := sk.1 c1; omega
                    · by_cases c2 : i = V.length - 2
                      · have := sk.2.1 c2; omega
                      · have := sk.2.2 (by omega); omega))
      · show jT _ _ 51 _ _ _ _
        refine tl_iload_n rfl rfl ?_
        refine tl_iload rfl rfl ?_
        show jT _ _ 54 _ _ _ _
        refine tl_aload_n rfl rfl ?_
        refine tl_getr (c := 12) (k9 := 30) (b := 407) rfl rfl rfl rfl ?_
        refine tl_iload_n rfl rfl ?_
        refine tl_iald (n := 300) rfl rfl rfl (by omega) (by omega) ?_
        rw [Int.toNat_natCast, kT _ hi]
        refine tl_isub rfl ?_
        refine tl_iload rfl rfl ?_
        refine tl_imul rfl ?_
        show jT _ _ 64 _ _ _ _
        refine tl_iadd rfl ?_
        refine tl_sipush rfl rfl ?_
        refine tl_iremT rfl ⟨by omega, by omega⟩ (by omega) (by omega) ?_
        refine tl_sipush rfl rfl ?_
        refine tl_iadd rfl ?_
        refine tl_sipush rfl rfl ?_
        refine tl_irem rfl (by omega) (by omega) (by omega) (by omega) ?_
        show jT _ _ 77 _ _ _ _
        refine tl_goto (tgt := 81) rfl rfl ?_
        refine tl_istore rfl (Nat.le_of_ble_eq_true rfl) rfl ?_
        refine tl_sipush rfl rfl ?_
        refine tl_iload rfl rfl ?_
        refine tl_imul rfl ?_
        refine tl_iload rfl rfl ?_
        refine tl_iadd rfl ?_
        show jT _ _ 92 _ _ _ _
        refine tl_iload rfl rfl ?_
        refine tl_icmp_ne (tgt := 101) rfl rfl ⟨by omega, by omega⟩ ⟨by omega, by omega⟩ (fun c8 => ?_) (fun c8 => ?_)
        · skip
          refine tl_iconst rfl ?_
          refine tl_iret rfl ?_
          -- leaf 6 at 102
          first
            | (refine ⟨1, rfl, by omega, rfl, by omega, fun w => ?_⟩
               have sk := sealed_k l2 hi w
               first
                 | rfl
                 | (exfalso
                    by_cases c1 : i < V.length - 2
                    · have := sk.1 c1; omega
                    · by_cases c2 : i = V.length - 2
                      · have := sk.2.1 c2; omega
                      · have := sk.2.2 (by omega); omega))
            | (refine ⟨0, rfl, by omega, rfl, by omega, fun w => ?_⟩
               have sk := sealed_k l2 hi w
               first
                 | rfl
                 | (exfalso
                    by_cases c1 : i < V.length - 2
                    · have := sk.1 c1; omega
                    · by_cases c2 : i = V.length - 2
                      · have := sk.2.1 c2; omega
                      · have := sk.2.2 (by omega); omega))
        · show jT _ _ 97 _ _ _ _
          refine tl_iconst rfl ?_
          refine tl_goto (tgt := 102) rfl rfl ?_
          refine tl_iret rfl ?_
          -- leaf 7 at 102
          first
            | (refine ⟨1, rfl, by omega, rfl, by omega, fun w => ?_⟩
               have sk := sealed_k l2 hi w
               first
                 | rfl
                 | (exfalso
                    by_cases c1 : i < V.length - 2
                    · have := sk.1 c1; omega
                    · by_cases c2 : i = V.length - 2
                      · have := sk.2.1 c2; omega
                      · have := sk.2.2 (by omega); omega))
            | (refine ⟨0, rfl, by omega, rfl, by omega, fun w => ?_⟩
               have sk := sealed_k l2 hi w
               first
                 | rfl
                 | (exfalso
                    by_cases c1 : i < V.length - 2
                    · have := sk.1 c1; omega
                    · by_cases c2 : i = V.length - 2
                      · have := sk.2.1 c2; omega
                      · have := sk.2.2 (by omega); omega))
  · show jT _ _ 7 _ _ _ _
    show jT _ _ 7 _ _ _ _
    refine tl_iload rfl rfl ?_
    refine tl_goto (tgt := 20) rfl rfl ?_
    refine tl_istore rfl (Nat.le_of_ble_eq_true rfl) rfl ?_
    refine tl_iload_n rfl rfl ?_
    refine tl_iload_n rfl rfl ?_
    refine tl_iconst rfl ?_
    refine tl_isub rfl ?_
    show jT _ _ 26 _ _ _ _
    refine tl_icmp_ne (tgt := 34) rfl rfl ⟨by omega, by omega⟩ ⟨by omega, by omega⟩ (fun c9 => ?_) (fun c9 => ?_)
    · skip
      refine tl_aload_n rfl rfl ?_
      refine tl_getr (c := 12) (k9 := 30) (b := 407) rfl rfl rfl rfl ?_
      refine tl_iload_n rfl rfl ?_
      refine tl_iconst rfl ?_
      refine tl_isub rfl ?_
      refine tl_iald (n := 300) rfl rfl rfl (by omega) (by omega) ?_
      rw [show ((V.length : Int) - 1).toNat = V.length - 1 by omega, kT _ (by omega)]
      show jT _ _ 42 _ _ _ _
      refine tl_istore rfl (Nat.le_of_ble_eq_true rfl) rfl ?_
      refine tl_iload_n rfl rfl ?_
      refine tl_iload_n rfl rfl ?_
      refine tl_iconst rfl ?_
      refine tl_isub rfl ?_
      refine tl_icmp_ge (tgt := 80) rfl rfl ⟨by omega, by omega⟩ ⟨by omega, by omega⟩ (fun c10 => ?_) (fun c10 => ?_)
      · skip
        refine tl_iload_n rfl rfl ?_
        show jT _ _ 81 _ _ _ _
        refine tl_istore rfl (Nat.le_of_ble_eq_true rfl) rfl ?_
        refine tl_sipush rfl rfl ?_
        refine tl_iload rfl rfl ?_
        refine tl_imul rfl ?_
        refine tl_iload rfl rfl ?_
        refine tl_iadd rfl ?_
        refine tl_iload rfl rfl ?_
        show jT _ _ 94 _ _ _ _
        refine tl_icmp_ne (tgt := 101) rfl rfl ⟨by omega, by omega⟩ ⟨by omega, by omega⟩ (fun c11 => ?_) (fun c11 => ?_)
        · skip
          refine tl_iconst rfl ?_
          refine tl_iret rfl ?_
          -- leaf 8 at 102
          first
            | (refine ⟨1, rfl, by omega, rfl, by omega, fun w => ?_⟩
               have sk := sealed_k l2 hi w
               first
                 | rfl
                 | (exfalso
                    by_cases c1 : i < V.length - 2
                    · have := sk.1 c1; omega
                    · by_cases c2 : i = V.length - 2
                      · have := sk.2.1 c2; omega
                      · have := sk.2.2 (by omega); omega))
            | (refine ⟨0, rfl, by omega, rfl, by omega, fun w => ?_⟩
               have sk := sealed_k l2 hi w
               first
                 | rfl
                 | (exfalso
                    by_cases c1 : i < V.length - 2
                    · have := sk.1 c1; omega
                    · by_cases c2 : i = V.length - 2
                      · have := sk.2.1 c2; omega
                      · have := sk.2.2 (by omega); omega))
        · show jT _ _ 97 _ _ _ _
          refine tl_iconst rfl ?_
          refine tl_goto (tgt := 102) rfl rfl ?_
          refine tl_iret rfl ?_
          -- leaf 9 at 102
          first
            | (refine ⟨1, rfl, by omega, rfl, by omega, fun w => ?_⟩
               have sk := sealed_k l2 hi w
               first
                 | rfl
                 | (exfalso
                    by_cases c1 : i < V.length - 2
                    · have := sk.1 c1; omega
                    · by_cases c2 : i = V.length - 2
                      · have := sk.2.1 c2; omega
                      · have := sk.2.2 (by omega); omega))
            | (refine ⟨0, rfl, by omega, rfl, by omega, fun w => ?_⟩
               have sk := sealed_k l2 hi w
               first
                 | rfl
                 | (exfalso
                    by_cases c1 : i < V.length - 2
                    · have := sk.1 c1; omega
                    · by_cases c2 : i = V.length - 2
                      · have := sk.2.1 c2; omega
                      · have := sk.2.2 (by omega); omega))
      · show jT _ _ 51 _ _ _ _
        refine tl_iload_n rfl rfl ?_
        show jT _ _ 52 _ _ _ _
        refine tl_iload rfl rfl ?_
        refine tl_aload_n rfl rfl ?_
        refine tl_getr (c := 12) (k9 := 30) (b := 407) rfl rfl rfl rfl ?_
        refine tl_iload_n rfl rfl ?_
        refine tl_iald (n := 300) rfl rfl rfl (by omega) (by omega) ?_
        rw [Int.toNat_natCast, kT _ hi]
        refine tl_isub rfl ?_
        refine tl_iload rfl rfl ?_
        show jT _ _ 63 _ _ _ _
        refine tl_imul rfl ?_
        refine tl_iadd rfl ?_
        refine tl_sipush rfl rfl ?_
        refine tl_iremT rfl ⟨by omega, by omega⟩ (by omega) (by omega) ?_
        refine tl_sipush rfl rfl ?_
        refine tl_iadd rfl ?_
        refine tl_sipush rfl rfl ?_
        show jT _ _ 76 _ _ _ _
        refine tl_irem rfl (by omega) (by omega) (by omega) (by omega) ?_
        refine tl_goto (tgt := 81) rfl rfl ?_
        refine tl_istore rfl (Nat.le_of_ble_eq_true rfl) rfl ?_
        refine tl_sipush rfl rfl ?_
        refine tl_iload rfl rfl ?_
        refine tl_imul rfl ?_
        refine tl_iload rfl rfl ?_
        show jT _ _ 91 _ _ _ _
        refine tl_iadd rfl ?_
        refine tl_iload rfl rfl ?_
        refine tl_icmp_ne (tgt := 101) rfl rfl ⟨by omega, by omega⟩ ⟨by omega, by omega⟩ (fun c12 => ?_) (fun c12 => ?_)
        · skip
          refine tl_iconst rfl ?_
          refine tl_iret rfl ?_
          -- leaf 10 at 102
          first
            | (refine ⟨1, rfl, by omega, rfl, by omega, fun w => ?_⟩
               have sk := sealed_k l2 hi w
               first
                 | rfl
                 | (exfalso
                    by_cases c1 : i < V.length - 2
                    · have := sk.1 c1; omega
                    · by_cases c2 : i = V.length - 2
                      · have := sk.2.1 c2; omega
                      · have := sk.2.2 (by omega); omega))
            | (refine ⟨0, rfl, by omega, rfl, by omega, fun w => ?_⟩
               have sk := sealed_k l2 hi w
               first
                 | rfl
                 | (exfalso
                    by_cases c1 : i < V.length - 2
                    · have := sk.1 c1; omega
                    · by_cases c2 : i = V.length - 2
                      · have := sk.2.1 c2; omega
                      · have := sk.2.2 (by omega); omega))
        · show jT _ _ 97 _ _ _ _
          refine tl_iconst rfl ?_
          refine tl_goto (tgt := 102) rfl rfl ?_
          show jT _ _ 102 _ _ _ _
          refine tl_iret rfl ?_
          -- leaf 11 at 102
          first
            | (refine ⟨1, rfl, by omega, rfl, by omega, fun w => ?_⟩
               have sk := sealed_k l2 hi w
               first
                 | rfl
                 | (exfalso
                    by_cases c1 : i < V.length - 2
                    · have := sk.1 c1; omega
                    · by_cases c2 : i = V.length - 2
                      · have := sk.2.1 c2; omega
                      · have := sk.2.2 (by omega); omega))
            | (refine ⟨0, rfl, by omega, rfl, by omega, fun w => ?_⟩
               have sk := sealed_k l2 hi w
               first
                 | rfl
                 | (exfalso
                    by_cases c1 : i < V.length - 2
                    · have := sk.1 c1; omega
                    · by_cases c2 : i = V.length - 2
                      · have := sk.2.1 c2; omega
                      · have := sk.2.2 (by omega); omega))
    · show jT _ _ 29 _ _ _ _
      refine tl_iload rfl rfl ?_
      refine tl_goto (tgt := 42) rfl rfl ?_
      refine tl_istore rfl (Nat.le_of_ble_eq_true rfl) rfl ?_
      refine tl_iload_n rfl rfl ?_
      refine tl_iload_n rfl rfl ?_
      refine tl_iconst rfl ?_
      show jT _ _ 47 _ _ _ _
      refine tl_isub rfl ?_
      refine tl_icmp_ge (tgt := 80) rfl rfl ⟨by omega, by omega⟩ ⟨by omega, by omega⟩ (fun c13 => ?_) (fun c13 => ?_)
      · skip
        refine tl_iload_n rfl rfl ?_
        refine tl_istore rfl (Nat.le_of_ble_eq_true rfl) rfl ?_
        refine tl_sipush rfl rfl ?_
        refine tl_iload rfl rfl ?_
        refine tl_imul rfl ?_
        show jT _ _ 89 _ _ _ _
        refine tl_iload rfl rfl ?_
        refine tl_iadd rfl ?_
        refine tl_iload rfl rfl ?_
        refine tl_icmp_ne (tgt := 101) rfl rfl ⟨by omega, by omega⟩ ⟨by omega, by omega⟩ (fun c14 => ?_) (fun c14 => ?_)
        · skip
          refine tl_iconst rfl ?_
          refine tl_iret rfl ?_
          -- leaf 12 at 102
          first
            | (refine ⟨1, rfl, by omega, rfl, by omega, fun w => ?_⟩
               have sk := sealed_k l2 hi w
               first
                 | rfl
                 | (exfalso
                    by_cases c1 : i < V.length - 2
                    · have := sk.1 c1; omega
                    · by_cases c2 : i = V.length - 2
                      · have := sk.2.1 c2; omega
                      · have := sk.2.2 (by omega); omega))
            | (refine ⟨0, rfl, by omega, rfl, by omega, fun w => ?_⟩
               have sk := sealed_k l2 hi w
               first
                 | rfl
                 | (exfalso
                    by_cases c1 : i < V.length - 2
                    · have := sk.1 c1; omega
                    · by_cases c2 : i = V.length - 2
                      · have := sk.2.1 c2; omega
                      · have := sk.2.2 (by omega); omega))
        · show jT _ _ 97 _ _ _ _
          refine tl_iconst rfl ?_
          show jT _ _ 98 _ _ _ _
          refine tl_goto (tgt := 102) rfl rfl ?_
          refine tl_iret rfl ?_
          -- leaf 13 at 102
          first
            | (refine ⟨1, rfl, by omega, rfl, by omega, fun w => ?_⟩
               have sk := sealed_k l2 hi w
               first
                 | rfl
                 | (exfalso
                    by_cases c1 : i < V.length - 2
                    · have := sk.1 c1; omega
                    · by_cases c2 : i = V.length - 2
                      · have := sk.2.1 c2; omega
                      · have := sk.2.2 (by omega); omega))
            | (refine ⟨0, rfl, by omega, rfl, by omega, fun w => ?_⟩
               have sk := sealed_k l2 hi w
               first
                 | rfl
                 | (exfalso
                    by_cases c1 : i < V.length - 2
                    · have := sk.1 c1; omega
                    · by_cases c2 : i = V.length - 2
                      · have := sk.2.1 c2; omega
                      · have := sk.2.2 (by omega); omega))
      · show jT _ _ 51 _ _ _ _
        refine tl_iload_n rfl rfl ?_
        refine tl_iload rfl rfl ?_
        refine tl_aload_n rfl rfl ?_
        refine tl_getr (c := 12) (k9 := 30) (b := 407) rfl rfl rfl rfl ?_
        refine tl_iload_n rfl rfl ?_
        show jT _ _ 59 _ _ _ _
        refine tl_iald (n := 300) rfl rfl rfl (by omega) (by omega) ?_
        rw [Int.toNat_natCast, kT _ hi]
        refine tl_isub rfl ?_
        refine tl_iload rfl rfl ?_
        refine tl_imul rfl ?_
        refine tl_iadd rfl ?_
        refine tl_sipush rfl rfl ?_
        refine tl_iremT rfl ⟨by omega, by omega⟩ (by omega) (by omega) ?_
        show jT _ _ 69 _ _ _ _
        refine tl_sipush rfl rfl ?_
        refine tl_iadd rfl ?_
        refine tl_sipush rfl rfl ?_
        refine tl_irem rfl (by omega) (by omega) (by omega) (by omega) ?_
        refine tl_goto (tgt := 81) rfl rfl ?_
        refine tl_istore rfl (Nat.le_of_ble_eq_true rfl) rfl ?_
        refine tl_sipush rfl rfl ?_
        show jT _ _ 86 _ _ _ _
        refine tl_iload rfl rfl ?_
        refine tl_imul rfl ?_
        refine tl_iload rfl rfl ?_
        refine tl_iadd rfl ?_
        refine tl_iload rfl rfl ?_
        refine tl_icmp_ne (tgt := 101) rfl rfl ⟨by omega, by omega⟩ ⟨by omega, by omega⟩ (fun c15 => ?_) (fun c15 => ?_)
        · skip
          refine tl_iconst rfl ?_
          show jT _ _ 102 _ _ _ _
          refine tl_iret rfl ?_
          -- leaf 14 at 102
          first
            | (refine ⟨1, rfl, by omega, rfl, by omega, fun w => ?_⟩
               have sk := sealed_k l2 hi w
               first
                 | rfl
                 | (exfalso
                    by_cases c1 : i < V.length - 2
                    · have := sk.1 c1; omega
                    · by_cases c2 : i = V.length - 2
                      · have := sk.2.1 c2; omega
                      · have := sk.2.2 (by omega); omega))
            | (refine ⟨0, rfl, by omega, rfl, by omega, fun w => ?_⟩
               have sk := sealed_k l2 hi w
               first
                 | rfl
                 | (exfalso
                    by_cases c1 : i < V.length - 2
                    · have := sk.1 c1; omega
                    · by_cases c2 : i = V.length - 2
                      · have := sk.2.1 c2; omega
                      · have := sk.2.2 (by omega); omega))
        · show jT _ _ 97 _ _ _ _
          refine tl_iconst rfl ?_
          refine tl_goto (tgt := 102) rfl rfl ?_
          refine tl_iret rfl ?_
          -- leaf 15 at 102
          first
            | (refine ⟨1, rfl, by omega, rfl, by omega, fun w => ?_⟩
               have sk := sealed_k l2 hi w
               first
                 | rfl
                 | (exfalso
                    by_cases c1 : i < V.length - 2
                    · have := sk.1 c1; omega
                    · by_cases c2 : i = V.length - 2
                      · have := sk.2.1 c2; omega
                      · have := sk.2.2 (by omega); omega))
            | (refine ⟨0, rfl, by omega, rfl, by omega, fun w => ?_⟩
               have sk := sealed_k l2 hi w
               first
                 | rfl
                 | (exfalso
                    by_cases c1 : i < V.length - 2
                    · have := sk.1 c1; omega
                    · by_cases c2 : i = V.length - 2
                      · have := sk.2.1 c2; omega
                      · have := sk.2.2 (by omega); omega))
theorem svV_b {V : List Int} {R : Nat → Int} {i : Nat} {W : Nat → Int} (w : 0 ≤ W 0 ∧ W 0 ≤ 100000) : ∀ v : Nat, 0 ≤ svV V R i W v 0 ∧ svV V R i W v 0 ≤ 100000 + (v : Int) := by
  intro v
  induction v with
  | zero => show 0 ≤ W 0 ∧ W 0 ≤ _; omega
  | succ v ih =>
    rw [svV]
    split
    · show 0 ≤ svV V R i W v 0 + 1 ∧ svV V R i W v 0 + 1 ≤ _; omega
    · omega
set_option maxRecDepth 20000 in
set_option maxHeartbeats 1000000 in
theorem r_ts_lp (l : Launch) (h : jH) (V : List Int) (hV : LB V) (v3 : V.length ≤ 300) (l2 : 2 ≤ V.length) (R : Nat → Int) (ok : Rok R) (W : Nat → Int) (wb9 : 0 ≤ W 0 ∧ W 0 ≤ 100000) (i : Nat) (hi9 : i < V.length) (wg : Int) (hwg : wg = if i < V.length - 2 then wgt (V.length - 3 - i) else 0) (e390 : h 390 = R) (P : Option Value → jH → Prop) (hx : ∀ mem, ((mem 388 81 = (svV V R i W 256) 0 ∧ mem 388 82 = (svV V R i W 256) 1 ∧ mem 388 83 = (svV V R i W 256) 2) ∧ (∀ q, q < V.length → q ≠ i → mem 407 q = V.getD q 0) ∧ ((∀ x, x ≠ 388 → (x < 403 ∨ x = 405 ∨ 413 < x) → mem x = h x) ∧ ∀ q, q ≠ 25 → q ≠ 29 → (q < 31 ∨ 38 < q) → q ≠ 81 → q ≠ 82 → q ≠ 83 → mem 388 q = h 388 q)) → jT l 349 120 [some (.ref 388), some (.int (jI ((V.length : Int)))), some (.int (jI ((ckF (TB V) (V.length - 2))))), some (.int (jI ((i : Int)))), some (.int (jI (wg))), some (.int (jI (V.getD i 0))), some (.int (jI (256)))] [] mem P) : ∀ (m : Nat) (v : Nat) (mem : jH), 256 - v < m → (v ≤ 256 ∧ (mem 388 81 = (svV V R i W v) 0 ∧ mem 388 82 = (svV V R i W v) 1 ∧ mem 388 83 = (svV V R i W v) 2) ∧ (∀ q, q < V.length → q ≠ i → mem 407 q = V.getD q 0) ∧ (∀ x, x ≠ 388 → (x < 403 ∨ x = 405 ∨ 413 < x) → mem x = h x) ∧ ∀ q, q ≠ 25 → q ≠ 29 → (q < 31 ∨ 38 < q) → q ≠ 81 → q ≠ 82 → q ≠ 83 → mem 388 q = h 388 q) → jT l 349 11 [some (.ref 388), some (.int (jI ((V.length : Int)))), some (.int (jI ((ckF (TB V) (V.length - 2))))), some (.int (jI ((i : Int)))), some (.int (jI (wg))), some (.int (jI (V.getD i 0))), some (.int (jI ((v : Int))))] [] mem P := by
  have y3 := hV.gd (i := i) hi9
  have y31 := y3.1
  have y32 := y3.2
  intro m
  induction m with
  | zero => intro v mem hk; omega
  | succ m ih =>
    intro v mem hk hi
    obtain ⟨i0, kW, kT, fr⟩ := hi
    have sb := svV_b (V := V) (R := R) (i := i) (W := W) wb9 v
    have kT1 : ∀ q, q < V.length → (hs mem 407 i (V.getD i 0)) 407 q = V.getD q 0 := fun q hq => by by_cases c : q = i; (subst c; rw [hs_s]); (rw [hs_k c]; exact kT q hq c)
    refine tl_iload rfl rfl ?_
    refine tl_sipush rfl rfl ?_
    refine tl_icmp_ge (tgt := 120) rfl rfl ⟨by omega, by omega⟩ ⟨by omega, by omega⟩ (fun c1 => ?_) (fun c1 => ?_)
    · skip
      show jT _ _ 120 _ _ _ _
      -- leaf 0 at 120
      have e : v = 256 := by omega
      subst e
      exact hx mem ⟨kW, kT, fr⟩
    · show jT _ _ 19 _ _ _ _
      refine tl_aload_n rfl rfl ?_
      refine tl_getr (c := 12) (k9 := 30) (b := 407) rfl rfl rfl rfl ?_
      refine tl_iload_n rfl rfl ?_
      show jT _ _ 24 _ _ _ _
      refine tl_iload rfl rfl ?_
      refine tl_iast (n := 300) rfl rfl rfl (by omega) (by omega) ?_
      rw [Int.toNat_natCast]
      refine tl_iload rfl rfl ?_
      refine tl_iload rfl rfl ?_
      refine tl_icmp_eq (tgt := 114) rfl rfl ⟨by omega, by omega⟩ ⟨by omega, by omega⟩ (fun c2 => ?_) (fun c2 => ?_)
      · skip
        refine tl_iinc rfl rfl rfl ?_
        refine tl_goto (tgt := 11) rfl rfl ?_
        show jT _ _ 11 _ _ _ _
        -- leaf 1 at 11
        have e : svV V R i W (v + 1) = svV V R i W v := by rw [svV, if_neg (fun w => by have := (svP_t.mp w).1; omega)]
        refine ih (v + 1) (hs mem 407 i (V.getD i 0)) (by omega) ⟨by omega, by rw [e]; rw [hs_o (by decide), hs_o (by decide), hs_o (by decide)]; exact kW, fun q hq _ => kT1 q hq, fun x x1 x2 => by rw [hs_O (by omega)]; exact fr.1 x x1 x2, fun q a b c d e f => by rw [hs_o (by decide)]; exact fr.2 q a b c d e f⟩
      · show jT _ _ 34 _ _ _ _
        show jT _ _ 34 _ _ _ _
        refine tl_aload_n rfl rfl ?_
        refine tl_iload_n rfl rfl ?_
        refine tl_iload_n rfl rfl ?_
        refine tl_iload_n rfl rfl ?_
        refine tl_iload rfl rfl ?_
        refine tl_iload rfl rfl ?_
        refine tl_v5i (c9 := 12) (r_isSealed l (hs mem 407 i (V.getD i 0)) V hV v3 l2 kT1 i hi9 wg hwg (v : Int) (by omega)) rfl rfl rfl rfl rfl (Nat.le_of_ble_eq_true rfl) (fun z1 h1 p1 => ?_)
        obtain ⟨q1, zb1, s1⟩ := p1
        have q1 := q1.symm
        subst q1
        show jT _ _ 45 _ _ _ _
        refine tl_if_eq (tgt := 114) rfl rfl ⟨by omega, by omega⟩ (fun c3 => ?_) (fun c3 => ?_)
        · skip
          refine tl_iinc rfl rfl rfl ?_
          refine tl_goto (tgt := 11) rfl rfl ?_
          show jT _ _ 11 _ _ _ _
          -- leaf 2 at 11
          have e : svV V R i W (v + 1) = svV V R i W v := by rw [svV, if_neg (fun w => by have r := (svP_t.mp w).2; unfold rdF at r; have ck : ckf (V.set i (v : Int)) = 0 := (by by_cases z : ckf (V.set i (v : Int)) = 0; exact z; (rw [if_pos z] at r; exact absurd r z)); have := s1 ck; omega)]
          refine ih (v + 1) (hs mem 407 i (V.getD i 0)) (by omega) ⟨by omega, by rw [e]; rw [hs_o (by decide), hs_o (by decide), hs_o (by decide)]; exact kW, fun q hq _ => kT1 q hq, fun x x1 x2 => by rw [hs_O (by omega)]; exact fr.1 x x1 x2, fun q a b c d e f => by rw [hs_o (by decide)]; exact fr.2 q a b c d e f⟩
        · show jT _ _ 48 _ _ _ _
          refine tl_aload_n rfl rfl ?_
          refine tl_getr (c := 12) (k9 := 30) (b := 407) rfl rfl rfl rfl ?_
          refine tl_iload_n rfl rfl ?_
          refine tl_iload rfl rfl ?_
          show jT _ _ 55 _ _ _ _
          refine tl_iast (n := 300) rfl rfl rfl (by omega) (by omega) ?_
          rw [Int.toNat_natCast]
          refine tl_aload_n rfl rfl ?_
          refine tl_iload_n rfl rfl ?_
          refine tl_iconst rfl ?_
          refine tl_v2i (c9 := 12) (r_readToldN l (hs (hs mem 407 i (V.getD i 0)) 407 i (v : Int)) (V.set i (v : Int)) (hV.set ⟨by omega, by omega⟩) (by rw [List.length_set]; omega) (fun q hq => by rw [List.length_set] at hq; rw [gd_set hi9]; by_cases c : q = i; (subst c; rw [if_pos rfl, hs_s]); (rw [if_neg c, hs_k c]; exact kT1 q hq)) true R (by rw [hs_O (by decide), hs_O (by decide), fr.1 390 (by decide) (by omega)]; exact e390) ok V.length List.length_set) rfl rfl rfl rfl rfl (Nat.le_of_ble_eq_true rfl) (fun z2 h2 p2 => ?_)
          obtain ⟨e2, f2⟩ := p2
          have rb2 := rdF_b (V.set i (v : Int)) true R
          subst e2
          have w0 : h2 388 81 = (svV V R i W v) 0 := by rw [f2.2 81 (by decide) (by decide) (by omega), hs_o (by decide), hs_o (by decide)]; exact kW.1
          have w1 : h2 388 82 = (svV V R i W v) 1 := by rw [f2.2 82 (by decide) (by decide) (by omega), hs_o (by decide), hs_o (by decide)]; exact kW.2.1
          have w2 : h2 388 83 = (svV V R i W v) 2 := by rw [f2.2 83 (by decide) (by decide) (by omega), hs_o (by decide), hs_o (by decide)]; exact kW.2.2
          have t2 : ∀ q, q < V.length → q ≠ i → h2 407 q = V.getD q 0 := fun q hq c => by rw [f2.1 407 (by decide) (by omega), hs_k c, hs_k c]; exact kT q hq c
          refine tl_if_ne (tgt := 114) rfl rfl ⟨by omega, by omega⟩ (fun c4 => ?_) (fun c4 => ?_)
          · skip
            refine tl_iinc rfl rfl rfl ?_
            show jT _ _ 117 _ _ _ _
            refine tl_goto (tgt := 11) rfl rfl ?_
            show jT _ _ 11 _ _ _ _
            -- leaf 3 at 11
            have e : svV V R i W (v + 1) = svV V R i W v := by rw [svV, if_neg (fun w => by have := (svP_t.mp w).2; omega)]
            refine ih (v + 1) h2 (by omega) ⟨by omega, by rw [e]; exact ⟨w0, w1, w2⟩, t2, fun x x1 x2 => by rw [f2.1 x x1 (by omega), hs_O (by omega), hs_O (by omega)]; exact fr.1 x x1 x2, fun q a b c d e f => by rw [f2.2 q a b c, hs_o (by decide), hs_o (by decide)]; exact fr.2 q a b c d e f⟩
          · show jT _ _ 65 _ _ _ _
            refine tl_aload_n rfl rfl ?_
            refine tl_aload_n rfl rfl ?_
            refine tl_geti (c := 12) (k9 := 81) rfl rfl rfl ?_
            rw [w0]
            refine tl_if_ne (tgt := 77) rfl rfl ⟨by omega, by omega⟩ (fun c5 => ?_) (fun c5 => ?_)
            · skip
              refine tl_aload_n rfl rfl ?_
              refine tl_geti (c := 12) (k9 := 82) rfl rfl rfl ?_
              rw [w1]
              show jT _ _ 81 _ _ _ _
              refine tl_puti (c := 12) (k9 := 82) rfl rfl rfl rfl ?_
              refine tl_aload_n rfl rfl ?_
              refine tl_aload_n rfl rfl ?_
              refine tl_geti (c := 12) (k9 := 81) rfl rfl rfl ?_
              rw [hs_k (by decide), w0]
              refine tl_if_ne (tgt := 97) rfl rfl ⟨by omega, by omega⟩ (fun c6 => ?_) (fun c6 => ?_)
              · skip
                refine tl_aload_n rfl rfl ?_
                refine tl_geti (c := 12) (k9 := 83) rfl rfl rfl ?_
                rw [hs_k (by decide), w2]
                show jT _ _ 101 _ _ _ _
                refine tl_puti (c := 12) (k9 := 83) rfl rfl rfl rfl ?_
                refine tl_aload_n rfl rfl ?_
                refine tl_dup rfl rfl ?_
                refine tl_geti (c := 12) (k9 := 81) rfl rfl rfl ?_
                rw [hs_k (by decide), hs_k (by decide), w0]
                refine tl_iconst rfl ?_
                refine tl_iadd rfl ?_
                refine tl_puti (c := 12) (k9 := 81) rfl rfl rfl rfl ?_
                show jT _ _ 114 _ _ _ _
                refine tl_iinc rfl rfl rfl ?_
                refine tl_goto (tgt := 11) rfl rfl ?_
                show jT _ _ 11 _ _ _ _
                -- leaf 4 at 11
                have e : svV V R i W (v + 1) = svS (svV V R i W v) (i : Int) (v : Int) := by rw [svV, if_pos (svP_t.mpr ⟨by omega, by omega⟩)]
                first
                  | (exfalso; omega)
                  | (refine ih (v + 1) _ (by omega) ⟨by omega, ?_, fun q hq c => by rw [hs_o (by decide), hs_o (by decide), hs_o (by decide)]; exact t2 q hq c, fun x x1 x2 => by rw [hs_O x1, hs_O x1, hs_O x1, f2.1 x x1 (by omega), hs_O (by omega), hs_O (by omega)]; exact fr.1 x x1 x2, fun q a b c d e f => by rw [hs_k d, hs_k f, hs_k e, f2.2 q a b c, hs_o (by decide), hs_o (by decide)]; exact fr.2 q a b c d e f⟩
                     rw [e]
                     refine ⟨?_, ?_, ?_⟩
                     · rw [hs_s]; rfl
                     · rw [hs_k (by decide), hs_k (by decide), hs_s]; show _ = (if svV V R i W v 0 = 0 then (i : Int) else svV V R i W v 1); first | rw [if_pos (by omega)] | rw [if_neg (by omega)]
                     · rw [hs_k (by decide), hs_s]; show _ = (if svV V R i W v 0 = 0 then (v : Int) else svV V R i W v 2); first | rw [if_pos (by omega)] | rw [if_neg (by omega)])
              · show jT _ _ 92 _ _ _ _
                refine tl_iload rfl rfl ?_
                refine tl_goto (tgt := 101) rfl rfl ?_
                refine tl_puti (c := 12) (k9 := 83) rfl rfl rfl rfl ?_
                refine tl_aload_n rfl rfl ?_
                refine tl_dup rfl rfl ?_
                show jT _ _ 106 _ _ _ _
                refine tl_geti (c := 12) (k9 := 81) rfl rfl rfl ?_
                rw [hs_k (by decide), hs_k (by decide), w0]
                refine tl_iconst rfl ?_
                refine tl_iadd rfl ?_
                refine tl_puti (c := 12) (k9 := 81) rfl rfl rfl rfl ?_
                refine tl_iinc rfl rfl rfl ?_
                refine tl_goto (tgt := 11) rfl rfl ?_
                show jT _ _ 11 _ _ _ _
                -- leaf 5 at 11
                have e : svV V R i W (v + 1) = svS (svV V R i W v) (i : Int) (v : Int) := by rw [svV, if_pos (svP_t.mpr ⟨by omega, by omega⟩)]
                first
                  | (exfalso; omega)
                  | (refine ih (v + 1) _ (by omega) ⟨by omega, ?_, fun q hq c => by rw [hs_o (by decide), hs_o (by decide), hs_o (by decide)]; exact t2 q hq c, fun x x1 x2 => by rw [hs_O x1, hs_O x1, hs_O x1, f2.1 x x1 (by omega), hs_O (by omega), hs_O (by omega)]; exact fr.1 x x1 x2, fun q a b c d e f => by rw [hs_k d, hs_k f, hs_k e, f2.2 q a b c, hs_o (by decide), hs_o (by decide)]; exact fr.2 q a b c d e f⟩
                     rw [e]
                     refine ⟨?_, ?_, ?_⟩
                     · rw [hs_s]; rfl
                     · rw [hs_k (by decide), hs_k (by decide), hs_s]; show _ = (if svV V R i W v 0 = 0 then (i : Int) else svV V R i W v 1); first | rw [if_pos (by omega)] | rw [if_neg (by omega)]
                     · rw [hs_k (by decide), hs_s]; show _ = (if svV V R i W v 0 = 0 then (v : Int) else svV V R i W v 2); first | rw [if_pos (by omega)] | rw [if_neg (by omega)])
            · show jT _ _ 73 _ _ _ _
              refine tl_iload_n rfl rfl ?_
              show jT _ _ 74 _ _ _ _
              refine tl_goto (tgt := 81) rfl rfl ?_
              refine tl_puti (c := 12) (k9 := 82) rfl rfl rfl rfl ?_
              refine tl_aload_n rfl rfl ?_
              refine tl_aload_n rfl rfl ?_
              refine tl_geti (c := 12) (k9 := 81) rfl rfl rfl ?_
              rw [hs_k (by decide), w0]
              refine tl_if_ne (tgt := 97) rfl rfl ⟨by omega, by omega⟩ (fun c7 => ?_) (fun c7 => ?_)
              · skip
                refine tl_aload_n rfl rfl ?_
                show jT _ _ 98 _ _ _ _
                refine tl_geti (c := 12) (k9 := 83) rfl rfl rfl ?_
                rw [hs_k (by decide), w2]
                refine tl_puti (c := 12) (k9 := 83) rfl rfl rfl rfl ?_
                refine tl_aload_n rfl rfl ?_
                refine tl_dup rfl rfl ?_
                refine tl_geti (c := 12) (k9 := 81) rfl rfl rfl ?_
                rw [hs_k (by decide), hs_k (by decide), w0]
                refine tl_iconst rfl ?_
                refine tl_iadd rfl ?_
                show jT _ _ 111 _ _ _ _
                refine tl_puti (c := 12) (k9 := 81) rfl rfl rfl rfl ?_
                refine tl_iinc rfl rfl rfl ?_
                refine tl_goto (tgt := 11) rfl rfl ?_
                show jT _ _ 11 _ _ _ _
                -- leaf 6 at 11
                have e : svV V R i W (v + 1) = svS (svV V R i W v) (i : Int) (v : Int) := by rw [svV, if_pos (svP_t.mpr ⟨by omega, by omega⟩)]
                first
                  | (exfalso; omega)
                  | (refine ih (v + 1) _ (by omega) ⟨by omega, ?_, fun q hq c => by rw [hs_o (by decide), hs_o (by decide), hs_o (by decide)]; exact t2 q hq c, fun x x1 x2 => by rw [hs_O x1, hs_O x1, hs_O x1, f2.1 x x1 (by omega), hs_O (by omega), hs_O (by omega)]; exact fr.1 x x1 x2, fun q a b c d e f => by rw [hs_k d, hs_k f, hs_k e, f2.2 q a b c, hs_o (by decide), hs_o (by decide)]; exact fr.2 q a b c d e f⟩
                     rw [e]
                     refine ⟨?_, ?_, ?_⟩
                     · rw [hs_s]; rfl
                     · rw [hs_k (by decide), hs_k (by decide), hs_s]; show _ = (if svV V R i W v 0 = 0 then (i : Int) else svV V R i W v 1); first | rw [if_pos (by omega)] | rw [if_neg (by omega)]
                     · rw [hs_k (by decide), hs_s]; show _ = (if svV V R i W v 0 = 0 then (v : Int) else svV V R i W v 2); first | rw [if_pos (by omega)] | rw [if_neg (by omega)])
              · show jT _ _ 92 _ _ _ _
                refine tl_iload rfl rfl ?_
                refine tl_goto (tgt := 101) rfl rfl ?_
                refine tl_puti (c := 12) (k9 := 83) rfl rfl rfl rfl ?_
                refine tl_aload_n rfl rfl ?_
                show jT _ _ 105 _ _ _ _
                refine tl_dup rfl rfl ?_
                refine tl_geti (c := 12) (k9 := 81) rfl rfl rfl ?_
                rw [hs_k (by decide), hs_k (by decide), w0]
                refine tl_iconst rfl ?_
                refine tl_iadd rfl ?_
                refine tl_puti (c := 12) (k9 := 81) rfl rfl rfl rfl ?_
                refine tl_iinc rfl rfl rfl ?_
                refine tl_goto (tgt := 11) rfl rfl ?_
                show jT _ _ 11 _ _ _ _
                -- leaf 7 at 11
                have e : svV V R i W (v + 1) = svS (svV V R i W v) (i : Int) (v : Int) := by rw [svV, if_pos (svP_t.mpr ⟨by omega, by omega⟩)]
                first
                  | (exfalso; omega)
                  | (refine ih (v + 1) _ (by omega) ⟨by omega, ?_, fun q hq c => by rw [hs_o (by decide), hs_o (by decide), hs_o (by decide)]; exact t2 q hq c, fun x x1 x2 => by rw [hs_O x1, hs_O x1, hs_O x1, f2.1 x x1 (by omega), hs_O (by omega), hs_O (by omega)]; exact fr.1 x x1 x2, fun q a b c d e f => by rw [hs_k d, hs_k f, hs_k e, f2.2 q a b c, hs_o (by decide), hs_o (by decide)]; exact fr.2 q a b c d e f⟩
                     rw [e]
                     refine ⟨?_, ?_, ?_⟩
                     · rw [hs_s]; rfl
                     · rw [hs_k (by decide), hs_k (by decide), hs_s]; show _ = (if svV V R i W v 0 = 0 then (i : Int) else svV V R i W v 1); first | rw [if_pos (by omega)] | rw [if_neg (by omega)]
                     · rw [hs_k (by decide), hs_s]; show _ = (if svV V R i W v 0 = 0 then (v : Int) else svV V R i W v 2); first | rw [if_pos (by omega)] | rw [if_neg (by omega)])
set_option maxRecDepth 20000 in
set_option maxHeartbeats 1000000 in
theorem r_trySave (l : Launch) (h : jH) (V : List Int) (hV : LB V) (v3 : V.length ≤ 300) (l2 : 2 ≤ V.length) (R : Nat → Int) (ok : Rok R) (W : Nat → Int) (wb9 : 0 ≤ W 0 ∧ W 0 ≤ 100000) (i : Nat) (hi9 : i < V.length) (wg : Int) (hwg : wg = if i < V.length - 2 then wgt (V.length - 3 - i) else 0) (e390 : h 390 = R) (kT : ∀ q, q < V.length → h 407 q = V.getD q 0) (kW : (h 388 81 = W 0 ∧ h 388 82 = W 1 ∧ h 388 83 = W 2)) : cV l 349 [.ref 388, .int (jI (V.length : Int)), .int (jI (ckF (TB V) (V.length - 2))), .int (jI (i : Int)), .int (jI wg)] h (fun h' => (h' 388 81 = (svO V R i W) 0 ∧ h' 388 82 = (svO V R i W) 1 ∧ h' 388 83 = (svO V R i W) 2) ∧ (∀ q, q < V.length → h' 407 q = V.getD q 0) ∧ (∀ x, x ≠ 388 → (x < 403 ∨ x = 405 ∨ 413 < x) → h' x = h x) ∧ ∀ q, q ≠ 25 → q ≠ 29 → (q < 31 ∨ 38 < q) → q ≠ 81 → q ≠ 82 → q ≠ 83 → h' 388 q = h 388 q) := by
  have so := svV_o (R := R) hV l2 hi9 (W := W)
  refine cV.of rfl rfl ?_
  refine tl_aload_n rfl rfl ?_
  refine tl_getr (c := 12) (k9 := 30) (b := 407) rfl rfl rfl rfl ?_
  refine tl_iload_n rfl rfl ?_
  refine tl_iald (n := 300) rfl rfl rfl (by omega) (by omega) ?_
  rw [Int.toNat_natCast, kT _ hi9]
  refine tl_istore rfl (Nat.le_of_ble_eq_true rfl) rfl ?_
  refine tl_iconst rfl ?_
  show jT _ _ 9 _ _ _ _
  refine tl_istore rfl (Nat.le_of_ble_eq_true rfl) rfl ?_
  show jT _ _ 11 _ _ _ _
  -- leaf 0 at 11
  refine r_ts_lp l h V hV v3 l2 R ok W wb9 i hi9 wg hwg e390 _ (fun mem hj => ?_) _ 0 h (Nat.lt_succ_self _) ⟨Nat.zero_le _, kW, fun q hq _ => kT q hq, fun _ _ _ => rfl, fun _ _ _ _ _ _ _ => rfl⟩
  obtain ⟨j1, j2, j3⟩ := hj
  refine tl_aload_n rfl rfl ?_
  refine tl_getr (c := 12) (k9 := 30) (b := 407) rfl rfl rfl rfl ?_
  refine tl_iload_n rfl rfl ?_
  refine tl_iload rfl rfl ?_
  refine tl_iast (n := 300) rfl rfl rfl (by omega) (by omega) ?_
  rw [Int.toNat_natCast]
  refine tl_ret rfl ?_
  -- leaf 0 at 128
  rw [so] at j1
  refine ⟨rfl, by rw [hs_o (by decide), hs_o (by decide), hs_o (by decide)]; exact j1, fun q hq => ?_, fun x x1 x2 => by rw [hs_O (by omega)]; exact j3.1 x x1 x2, fun q a b c d e f => by rw [hs_o (by decide)]; exact j3.2 q a b c d e f⟩
  by_cases c : q = i
  · subst c; rw [hs_s]
  · rw [hs_k c]; exact j2 q hq c
set_option maxRecDepth 20000 in
set_option maxHeartbeats 1000000 in
theorem r_readSlotT (l : Launch) (h : jH) (R : Nat → Int) (e390 : h 390 = R) (ok : Rok R) (so : sOk R) (k : Int) (k0 : 0 ≤ k) (k2 : k ≤ 2) (n1 : R (200 + 301 * k).toNat ≠ -1) : cI l 290 [.ref 388, .int (jI k), .int (jI 1)] h (fun z h' => (z = rdF (slL R k) true R ∧ (∀ i, i < (slL R k).length → h' 407 i = (slL R k).getD i 0) ∧ FS9 h h')) := by
  have sb := so.b k0 k2 n1
  have s2 := sb.2.1
  refine cI.of rfl rfl ?_
  refine tl_iload_n rfl rfl ?_
  refine tl_s1i (c_slotAt l _ k) rfl rfl rfl (Nat.le_of_ble_eq_true rfl) (fun zs hs9 ps => ?_)
  obtain ⟨qs, es⟩ := ps
  have qs := qs.symm
  subst qs
  subst es
  refine tl_istore_n rfl (Nat.le_of_ble_eq_true rfl) rfl ?_
  refine tl_iconst rfl ?_
  refine tl_istore rfl (Nat.le_of_ble_eq_true rfl) rfl ?_
  show jT _ _ 8 _ _ _ _
  -- leaf 0 at 8
  refine r_rsl_lp l h R e390 so k k0 k2 n1 true _ (fun mem g1 fr => ?_) _ 0 h (Nat.lt_succ_self _) ⟨Nat.zero_le _, fun q hq => absurd hq (by omega), fun _ _ => rfl⟩
  refine tl_aload_n rfl rfl ?_
  refine tl_aload_n rfl rfl ?_
  refine tl_getr (c := 12) (k9 := 3) (b := 390) rfl rfl rfl rfl ?_
  refine tl_iload_n rfl rfl ?_
  refine tl_iald (n := 1362) rfl rfl rfl (by omega) (by omega) ?_
  rw [fr 390 (by decide), e390, ← s2]
  refine tl_iload_n rfl rfl ?_
  show jT _ _ 51 _ _ _ _
  refine tl_v2i (c9 := 12) (r_readTold l mem (slL R k) sb.1 sb.2.2.2 g1 true R (by rw [fr 390 (by decide)]; exact e390) ok) rfl rfl rfl rfl rfl (Nat.le_of_ble_eq_true rfl) (fun z2 h2 p2 => ?_)
  refine tl_iret rfl ?_
  -- leaf 0 at 54
  refine ⟨_, rfl, p2.1, fun i hi => by rw [p2.2.2.1 407 (by decide) (by omega)]; exact g1 i hi, FS9.trans ⟨fun x a1 a2 => fr x (by omega), fun q _ _ _ => by rw [fr 388 (by decide)]⟩ p2.2.2.s9⟩
set_option maxRecDepth 20000 in
set_option maxHeartbeats 1000000 in
theorem r_ls_A (l : Launch) (h : jH) (V : List Int) (hV : LB V) (v3 : V.length ≤ 300) (l2 : 2 ≤ V.length) (ka : Int) (P : Option Value → jH → Prop) (hx : ∀ mem (w9 : Int), ((∀ q, q < V.length - 2 → mem 433 q = wgt (V.length - 3 - q)) ∧ ∀ x, x ≠ 433 → mem x = h x) → jT l 350 84 [some (.ref 388), some (.int (jI (ka))), some (.int (jI ((V.length : Int)))), some (.int (jI ((ckF (TB V) (V.length - 2))))), some (.int (jI (w9))), some (.int (jI (-1)))] [] mem P) : ∀ (m : Nat) (e : Nat) (mem : jH), V.length - 2 - e < m → (e ≤ V.length - 2 ∧ (∀ q, V.length - 2 - e ≤ q → q < V.length - 2 → mem 433 q = wgt (V.length - 3 - q)) ∧ ∀ x, x ≠ 433 → mem x = h x) → jT l 350 54 [some (.ref 388), some (.int (jI (ka))), some (.int (jI ((V.length : Int)))), some (.int (jI ((ckF (TB V) (V.length - 2))))), some (.int (jI (wgt e))), some (.int (jI (((V.length - 2 : Nat) : Int) - 1 - (e : Int))))] [] mem P := by
  intro m
  induction m with
  | zero => intro e mem hk; omega
  | succ m ih =>
    intro e mem hk hi
    obtain ⟨i0, i1, fr⟩ := hi
    have wb := wgt_b e
    refine tl_iload rfl rfl ?_
    refine tl_if_lt (tgt := 84) rfl rfl ⟨by omega, by omega⟩ (fun c1 => ?_) (fun c1 => ?_)
    · skip
      show jT _ _ 84 _ _ _ _
      -- leaf 0 at 84
      have ee : e = V.length - 2 := by omega
      rw [show ((V.length - 2 : Nat) : Int) - 1 - (e : Int) = -1 by omega]
      exact hx mem (wgt e) ⟨fun q hq => i1 q (by omega) hq, fr⟩
    · show jT _ _ 59 _ _ _ _
      refine tl_aload_n rfl rfl ?_
      refine tl_getr (c := 12) (k9 := 84) (b := 433) rfl rfl rfl rfl ?_
      refine tl_iload rfl rfl ?_
      refine tl_iload rfl rfl ?_
      show jT _ _ 67 _ _ _ _
      refine tl_iast (n := 300) rfl rfl rfl (by omega) (by omega) ?_
      rw [show (((V.length - 2 : Nat) : Int) - 1 - (e : Int)).toNat = V.length - 2 - 1 - e by omega]
      refine tl_iconst rfl ?_
      refine tl_iload rfl rfl ?_
      refine tl_imul rfl ?_
      refine tl_sipush rfl rfl ?_
      refine tl_irem rfl (by omega) (by omega) (by omega) (by omega) ?_
      refine tl_istore rfl (Nat.le_of_ble_eq_true rfl) rfl ?_
      show jT _ _ 78 _ _ _ _
      refine tl_iinc rfl rfl rfl ?_
      refine tl_goto (tgt := 54) rfl rfl ?_
      show jT _ _ 54 _ _ _ _
      -- leaf 1 at 54
      rw [show ((V.length - 2 : Nat) : Int) - 1 - (e : Int) + -1 = ((V.length - 2 : Nat) : Int) - 1 - ((e + 1 : Nat) : Int) by omega]
      refine ih (e + 1) _ (by omega) ⟨by omega, fun q q1 q2 => ?_, fun x hx9 => by rw [hs_O hx9]; exact fr x hx9⟩
      by_cases c : q = V.length - 2 - 1 - e
      · subst c; rw [hs_s, show V.length - 3 - (V.length - 2 - 1 - e) = e by omega]
      · rw [hs_k c]; exact i1 q (by omega) q2
set_option maxRecDepth 20000 in
set_option maxHeartbeats 1000000 in
theorem r_ls_B (l : Launch) (h : jH) (V : List Int) (hV : LB V) (v3 : V.length ≤ 300) (l2 : 2 ≤ V.length) (R : Nat → Int) (ok : Rok R) (e390 : h 390 = R) (hw9 : ∀ q, q < V.length - 2 → h 433 q = wgt (V.length - 3 - q)) (ka w9 : Int) (P : Option Value → jH → Prop) (hP : ∀ mem, ((mem 388 81 = (svC V R V.length) 0 ∧ mem 388 82 = (svC V R V.length) 1 ∧ mem 388 83 = (svC V R V.length) 2) ∧ (∀ x, x ≠ 388 → (x < 403 ∨ x = 405 ∨ 413 < x) → mem x = h x) ∧ ∀ q, q ≠ 25 → q ≠ 29 → (q < 31 ∨ 38 < q) → q ≠ 81 → q ≠ 82 → q ≠ 83 → mem 388 q = h 388 q) → P none mem) : ∀ (m : Nat) (i : Nat) (mem : jH), V.length - i < m → (i ≤ V.length ∧ (mem 388 81 = (svC V R i) 0 ∧ mem 388 82 = (svC V R i) 1 ∧ mem 388 83 = (svC V R i) 2) ∧ (∀ q, q < V.length → mem 407 q = V.getD q 0) ∧ (∀ x, x ≠ 388 → (x < 403 ∨ x = 405 ∨ 413 < x) → mem x = h x) ∧ ∀ q, q ≠ 25 → q ≠ 29 → (q < 31 ∨ 38 < q) → q ≠ 81 → q ≠ 82 → q ≠ 83 → mem 388 q = h 388 q) → jT l 350 87 [some (.ref 388), some (.int (jI (ka))), some (.int (jI ((V.length : Int)))), some (.int (jI ((ckF (TB V) (V.length - 2))))), some (.int (jI (w9))), some (.int (jI ((i : Int))))] [] mem P := by
  intro m
  induction m with
  | zero => intro i mem hk; omega
  | succ m ih =>
    intro i mem hk hi
    obtain ⟨i0, kW, kT, fr⟩ := hi
    have wb := svC_b (V := V) (R := R) i
    have m433 : ∀ q, q < V.length - 2 → mem 433 q = wgt (V.length - 3 - q) := fun q hq => by rw [fr.1 433 (by decide) (by omega)]; exact hw9 q hq
    refine tl_iload rfl rfl ?_
    refine tl_iload_n rfl rfl ?_
    refine tl_icmp_ge (tgt := 126) rfl rfl ⟨by omega, by omega⟩ ⟨by omega, by omega⟩ (fun c1 => ?_) (fun c1 => ?_)
    · skip
      refine tl_ret rfl ?_
      -- leaf 0 at 126
      have e : i = V.length := by omega
      subst e
      exact hP mem ⟨kW, fr⟩
    · show jT _ _ 93 _ _ _ _
      refine tl_aload_n rfl rfl ?_
      refine tl_iload_n rfl rfl ?_
      show jT _ _ 95 _ _ _ _
      refine tl_iload_n rfl rfl ?_
      refine tl_iload rfl rfl ?_
      refine tl_iload rfl rfl ?_
      refine tl_iload_n rfl rfl ?_
      refine tl_iconst rfl ?_
      refine tl_isub rfl ?_
      refine tl_icmp_ge (tgt := 116) rfl rfl ⟨by omega, by omega⟩ ⟨by omega, by omega⟩ (fun c2 => ?_) (fun c2 => ?_)
      · skip
        show jT _ _ 116 _ _ _ _
        refine tl_iconst rfl ?_
        refine tl_v4v (c9 := 12) (r_trySave l mem V hV v3 l2 R ok (svC V R i) ⟨by omega, by omega⟩ i (by omega) _ (by first | rw [if_pos (by omega)] | rw [if_neg (by omega)]) (by rw [fr.1 390 (by decide) (by omega)]; exact e390) kT kW) rfl rfl rfl rfl rfl (Nat.le_of_ble_eq_true rfl) (fun h2 p2 => ?_)
        obtain ⟨j1, j2, j3⟩ := p2
        refine tl_iinc rfl rfl rfl ?_
        refine tl_goto (tgt := 87) rfl rfl ?_
        show jT _ _ 87 _ _ _ _
        -- leaf 1 at 87
        exact ih (i + 1) h2 (by omega) ⟨by omega, j1, j2, fun x x1 x2 => by rw [j3.1 x x1 x2]; exact fr.1 x x1 x2, fun q a b c d e f => by rw [j3.2 q a b c d e f]; exact fr.2 q a b c d e f⟩
      · show jT _ _ 106 _ _ _ _
        refine tl_aload_n rfl rfl ?_
        refine tl_getr (c := 12) (k9 := 84) (b := 433) rfl rfl rfl rfl ?_
        refine tl_iload rfl rfl ?_
        show jT _ _ 112 _ _ _ _
        refine tl_iald (n := 300) rfl rfl rfl (by omega) (by omega) ?_
        rw [Int.toNat_natCast, m433 i (by omega)]
        refine tl_goto (tgt := 117) rfl rfl ?_
        refine tl_v4v (c9 := 12) (r_trySave l mem V hV v3 l2 R ok (svC V R i) ⟨by omega, by omega⟩ i (by omega) _ (by first | rw [if_pos (by omega)] | rw [if_neg (by omega)]) (by rw [fr.1 390 (by decide) (by omega)]; exact e390) kT kW) rfl rfl rfl rfl rfl (Nat.le_of_ble_eq_true rfl) (fun h2 p2 => ?_)
        obtain ⟨j1, j2, j3⟩ := p2
        refine tl_iinc rfl rfl rfl ?_
        refine tl_goto (tgt := 87) rfl rfl ?_
        show jT _ _ 87 _ _ _ _
        -- leaf 2 at 87
        exact ih (i + 1) h2 (by omega) ⟨by omega, j1, j2, fun x x1 x2 => by rw [j3.1 x x1 x2]; exact fr.1 x x1 x2, fun q a b c d e f => by rw [j3.2 q a b c d e f]; exact fr.2 q a b c d e f⟩
set_option maxRecDepth 20000 in
set_option maxHeartbeats 4000000 in
theorem r_laySaves (l : Launch) (h : jH) (ok : Rok (h 390)) (so : sOk (h 390)) (k : Int) (k0 : 0 ≤ k) (k2 : k ≤ 2) (n1 : h 390 (200 + 301 * k).toNat ≠ -1) : cV l 350 [.ref 388, .int (jI k)] h (fun h' => (h' 388 81 = (svC (slL (h 390) k) (h 390) (slL (h 390) k).length) 0 ∧ h' 388 82 = (svC (slL (h 390) k) (h 390) (slL (h 390) k).length) 1 ∧ h' 388 83 = (svC (slL (h 390) k) (h 390) (slL (h 390) k).length) 2) ∧ (∀ x, x ≠ 388 → (x < 403 ∨ x = 405 ∨ (413 < x ∧ x ≠ 433)) → h' x = h x) ∧ ∀ q, q ≠ 25 → q ≠ 29 → (q < 31 ∨ 38 < q) → q ≠ 81 → q ≠ 82 → q ≠ 83 → h' 388 q = h 388 q) := by
  have sb := so.b k0 k2 n1
  have s2 := sb.2.1
  have s3 := sb.2.2.1
  have s4 := sb.2.2.2
  refine cV.of rfl rfl ?_
  refine tl_aload_n rfl rfl ?_
  refine tl_iconst rfl ?_
  refine tl_puti (c := 12) (k9 := 81) rfl rfl rfl rfl ?_
  refine tl_aload_n rfl rfl ?_
  refine tl_iconst rfl ?_
  refine tl_puti (c := 12) (k9 := 82) rfl rfl rfl rfl ?_
  show jT _ _ 10 _ _ _ _
  refine tl_aload_n rfl rfl ?_
  refine tl_iconst rfl ?_
  refine tl_puti (c := 12) (k9 := 83) rfl rfl rfl rfl ?_
  refine tl_aload_n rfl rfl ?_
  refine tl_getr (c := 12) (k9 := 3) (b := 390) rfl rfl rfl rfl ?_
  refine tl_iload_n rfl rfl ?_
  refine tl_s1i (c_slotAt l _ k) rfl rfl rfl (Nat.le_of_ble_eq_true rfl) (fun zs hs9 ps => ?_)
  obtain ⟨qs, es⟩ := ps
  have qs := qs.symm
  subst qs
  subst es
  show jT _ _ 23 _ _ _ _
  refine tl_iald (n := 1362) rfl rfl rfl (by omega) (by omega) ?_
  rw [hs_o (by decide), hs_o (by decide), hs_o (by decide), ← s2]
  refine tl_istore_n rfl (Nat.le_of_ble_eq_true rfl) rfl ?_
  refine tl_iload_n rfl rfl ?_
  refine tl_iconst rfl ?_
  refine tl_icmp_ge (tgt := 31) rfl rfl ⟨by omega, by omega⟩ ⟨by omega, by omega⟩ (fun c1 => ?_) (fun c1 => ?_)
  · skip
    refine tl_aload_n rfl rfl ?_
    refine tl_iload_n rfl rfl ?_
    show jT _ _ 33 _ _ _ _
    refine tl_iconst rfl ?_
    refine tl_v2i (c9 := 12) (r_readSlotT l _ (h 390) (by rw [hs_O (by decide), hs_O (by decide), hs_O (by decide)]) ok so k k0 k2 n1) rfl rfl rfl rfl rfl (Nat.le_of_ble_eq_true rfl) (fun z1 h1 p1 => ?_)
    obtain ⟨_, t1, f1⟩ := p1
    refine tl_pop rfl rfl ?_
    refine tl_aload_n rfl rfl ?_
    refine tl_iload_n rfl rfl ?_
    refine tl_iconst rfl ?_
    refine tl_isub rfl ?_
    show jT _ _ 42 _ _ _ _
    refine tl_v1i (c9 := 12) ((show cI l 288 [.ref 388, .int (jI (((slL (h 390) k).length : Int) - 2))] h1 _ by rw [show ((slL (h 390) k).length : Int) - 2 = (((slL (h 390) k).length - 2 : Nat) : Int) by omega]; exact r_toldCheck l h1 (TB (slL (h 390) k)) ((slL (h 390) k).length - 2) (by omega) (fun i hi => t1 i (by omega)) (fun i hi => sb.1.gd (by omega)))) rfl rfl rfl rfl rfl (Nat.le_of_ble_eq_true rfl) (fun z2 h2 p2 => ?_)
    obtain ⟨q2, p2⟩ := p2
    have q2 := q2.symm
    subst q2
    subst p2
    refine tl_istore_n rfl (Nat.le_of_ble_eq_true rfl) rfl ?_
    refine tl_iconst rfl ?_
    refine tl_istore rfl (Nat.le_of_ble_eq_true rfl) rfl ?_
    refine tl_iload_n rfl rfl ?_
    refine tl_iconst rfl ?_
    refine tl_isub rfl ?_
    show jT _ _ 52 _ _ _ _
    refine tl_istore rfl (Nat.le_of_ble_eq_true rfl) rfl ?_
    show jT _ _ 54 _ _ _ _
    -- leaf 0 at 54
    refine jT.loc ?_ (r_ls_A l h1 (slL (h 390) k) sb.1 sb.2.2.2 (by omega) k _ (fun m2 w9 hi => ?_) _ 0 h1 (Nat.lt_succ_self _) ⟨Nat.zero_le _, fun q a b => absurd b (by omega), fun _ _ => rfl⟩)
    · rw [show (((slL (h 390) k).length - 2 : Nat) : Int) - 1 - ((0 : Nat) : Int) = ((slL (h 390) k).length : Int) - 3 by omega]; rfl
    · obtain ⟨i2, fr2⟩ := hi
      refine tl_iconst rfl ?_
      refine tl_istore rfl (Nat.le_of_ble_eq_true rfl) rfl ?_
      show jT _ _ 87 _ _ _ _
      -- leaf 0 at 87
      refine r_ls_B l m2 (slL (h 390) k) sb.1 sb.2.2.2 (by omega) (h 390) ok (by rw [fr2 390 (by decide), f1.1 390 (by decide) (by omega), hs_O (by decide), hs_O (by decide), hs_O (by decide)]) i2 k w9 _ (fun m3 hz => ⟨rfl, hz.1, fun x x1 x2 => ?_, fun q a b c d e f => ?_⟩) _ 0 m2 (Nat.lt_succ_self _) ⟨Nat.zero_le _, ⟨?_, ?_, ?_⟩, fun q hq => by rw [fr2 407 (by decide)]; exact t1 q hq, fun _ _ _ => rfl, fun _ _ _ _ _ _ _ => rfl⟩
      · rw [fr2 388 (by decide), f1.2 81 (by decide) (by decide) (by omega), hs_k (by decide), hs_k (by decide), hs_s]; rfl
      · rw [fr2 388 (by decide), f1.2 82 (by decide) (by decide) (by omega), hs_k (by decide), hs_s]; rfl
      · rw [fr2 388 (by decide), f1.2 83 (by decide) (by decide) (by omega), hs_s]; rfl
      · rw [hz.2.1 x x1 (by omega), fr2 x (by omega), f1.1 x x1 (by omega), hs_O x1, hs_O x1, hs_O x1]
      · rw [hz.2.2 q a b c d e f, fr2 388 (by decide), f1.2 q a b c, hs_k f, hs_k e, hs_k d]
  · show jT _ _ 30 _ _ _ _
    refine tl_ret rfl ?_
    -- leaf 1 at 30
    have e := svC_s (R := h 390) (V := (slL (h 390) k)) (by omega) (slL (h 390) k).length
    rw [e]
    refine ⟨rfl, ⟨?_, ?_, ?_⟩, fun x x1 x2 => by rw [hs_O x1, hs_O x1, hs_O x1], fun q a b c d e f => by rw [hs_k f, hs_k e, hs_k d]⟩
    · rw [hs_k (by decide), hs_k (by decide), hs_s]; rfl
    · rw [hs_k (by decide), hs_s]; rfl
    · rw [hs_s]; rfl
set_option maxRecDepth 20000 in
set_option maxHeartbeats 1000000 in
theorem r_save (l : Launch) (g h : jH) (t k w : Int) (hI0 : IC g h t) (hk : jr k) (hw9 : jr w) : cI l 351 [.ref 388, .int (jI k), .int (jI w)] h (PRF (Dsave (Tz h) k w)) := by
  have k1 := hk.1
  have k2 := hk.2
  have w1 := hw9.1
  have w2 := hw9.2
  refine cI.of rfl rfl ?_
  refine tl_aload_n rfl rfl ?_
  refine tl_iconst rfl ?_
  refine tl_puti (c := 12) (k9 := 0) rfl rfl rfl rfl ?_
  have hI := hI0.z
  change jT _ _ _ _ _ (Tz h) _
  generalize Tz h = m at hI ⊢
  refine tl_iload_n rfl rfl ?_
  refine tl_s1i (c_isSlotR l _ k ⟨by omega, by omega⟩) rfl rfl rfl (Nat.le_of_ble_eq_true rfl) (fun zs hs9 ps => ?_)
  obtain ⟨qs, ps⟩ := ps
  have qs := qs.symm
  subst qs
  have bs : zs = 0 ∧ (k < 0 ∨ 2 < k) ∨ zs = 1 ∧ 0 ≤ k ∧ k ≤ 2 := by rw [ps]; split <;> omega
  refine tl_if_eq (tgt := 32) rfl rfl ⟨by omega, by omega⟩ (fun c1 => ?_) (fun c1 => ?_)
  · skip
    show jT _ _ 32 _ _ _ _
    refine tl_iconst rfl ?_
    refine tl_iret rfl ?_
    -- leaf 0 at 33
    refine ⟨_, rfl, ?_⟩
    have e : Asv (m 390) k w = -1 := by rw [Asv, if_neg (fun q => by omega)]
    rw [Dsave, e]
    exact PRF.rd RF.rfl9
  · show jT _ _ 12 _ _ _ _
    refine tl_aload_n rfl rfl ?_
    refine tl_iload_n rfl rfl ?_
    refine tl_v1i (c9 := 12) (c_has l _ k (by omega) (by omega) (by have a := (hI.sok k (by omega) (by omega)).1; exact ⟨by omega, by omega⟩)) rfl rfl rfl rfl rfl (Nat.le_of_ble_eq_true rfl) (fun zh hh9 ph => ?_)
    obtain ⟨qh, ph⟩ := ph
    have qh := qh.symm
    subst qh
    have bh : zh = 0 ∧ m 390 (200 + 301 * k).toNat = -1 ∨ zh = 1 ∧ m 390 (200 + 301 * k).toNat ≠ -1 := by rw [ph]; split <;> omega
    refine tl_if_eq (tgt := 32) rfl rfl ⟨by omega, by omega⟩ (fun c2 => ?_) (fun c2 => ?_)
    · skip
      refine tl_iconst rfl ?_
      show jT _ _ 33 _ _ _ _
      refine tl_iret rfl ?_
      -- leaf 1 at 33
      refine ⟨_, rfl, ?_⟩
      have e : Asv (m 390) k w = -1 := by rw [Asv, if_neg (fun q => by omega)]
      rw [Dsave, e]
      exact PRF.rd RF.rfl9
    · show jT _ _ 20 _ _ _ _
      refine tl_iload_n rfl rfl ?_
      refine tl_i2l rfl ⟨by omega, by omega⟩ ?_
      refine tl_lconst (z := 0) rfl rfl ?_
      refine tl_ldc2 (z := 2) rfl (by decide +kernel) ?_
      refine tl_s3i (c_in l _ _ _ _ ⟨by omega, by omega⟩ ⟨by omega, by omega⟩ ⟨by omega, by omega⟩) rfl rfl rfl (Nat.le_of_ble_eq_true rfl) (fun z1 h1 p1 => ?_)
      obtain ⟨q1, p1⟩ := p1
      have q1 := q1.symm
      subst q1
      have b1 : z1 = 0 ∨ z1 = 1 := by rw [p1]; split <;> omega
      refine tl_if_ne (tgt := 34) rfl rfl ⟨by omega, by omega⟩ (fun c3 => ?_) (fun c3 => ?_)
      · skip
        have cw : 0 ≤ w ∧ w ≤ 2 := by
          by_cases c : 0 ≤ w ∧ w ≤ 2
          · exact c
          · rw [if_neg c] at p1; omega
        show jT _ _ 34 _ _ _ _
        refine tl_aload_n rfl rfl ?_
        refine tl_iload_n rfl rfl ?_
        refine tl_v1v (c9 := 12) (r_laySaves l m hI.ok hI.sok k (by omega) (by omega) (by omega)) rfl rfl rfl rfl rfl (Nat.le_of_ble_eq_true rfl) (fun h1 p2 => ?_)
        obtain ⟨g1, f1⟩ := p2
        refine tl_iload_n rfl rfl ?_
        refine tl_if_ne (tgt := 50) rfl rfl ⟨by omega, by omega⟩ (fun c4 => ?_) (fun c4 => ?_)
        · skip
          refine tl_iload_n rfl rfl ?_
          refine tl_iconst rfl ?_
          show jT _ _ 52 _ _ _ _
          refine tl_icmp_ne (tgt := 62) rfl rfl ⟨by omega, by omega⟩ ⟨by omega, by omega⟩ (fun c5 => ?_) (fun c5 => ?_)
          · skip
            refine tl_aload_n rfl rfl ?_
            refine tl_geti (c := 12) (k9 := 83) rfl rfl rfl ?_
            rw [g1.2.2]
            refine tl_iret rfl ?_
            -- leaf 2 at 66
            first
              | (refine ⟨_, rfl, ?_⟩
                 have e : Asv (m 390) k w = svC (slL (m 390) k) (m 390) (slL (m 390) k).length 0 := by rw [Asv, if_pos (by omega), show w.toNat = 0 by omega]
                 rw [Dsave, e]
                 exact PRF.rd (RF.of (fun x hx => f1.1 x (by omega) (by omega)) (fun q hq => f1.2 q (by omega) (by omega) (by omega) (by omega) (by omega) (by omega))))
              | (refine ⟨_, rfl, ?_⟩
                 have e : Asv (m 390) k w = svC (slL (m 390) k) (m 390) (slL (m 390) k).length 1 := by rw [Asv, if_pos (by omega), show w.toNat = 1 by omega]
                 rw [Dsave, e]
                 exact PRF.rd (RF.of (fun x hx => f1.1 x (by omega) (by omega)) (fun q hq => f1.2 q (by omega) (by omega) (by omega) (by omega) (by omega) (by omega))))
              | (refine ⟨_, rfl, ?_⟩
                 have e : Asv (m 390) k w = svC (slL (m 390) k) (m 390) (slL (m 390) k).length 2 := by rw [Asv, if_pos (by omega), show w.toNat = 2 by omega]
                 rw [Dsave, e]
                 exact PRF.rd (RF.of (fun x hx => f1.1 x (by omega) (by omega)) (fun q hq => f1.2 q (by omega) (by omega) (by omega) (by omega) (by omega) (by omega))))
          · show jT _ _ 55 _ _ _ _
            refine tl_aload_n rfl rfl ?_
            refine tl_geti (c := 12) (k9 := 82) rfl rfl rfl ?_
            rw [g1.2.1]
            refine tl_goto (tgt := 66) rfl rfl ?_
            show jT _ _ 66 _ _ _ _
            refine tl_iret rfl ?_
            -- leaf 3 at 66
            first
              | (refine ⟨_, rfl, ?_⟩
                 have e : Asv (m 390) k w = svC (slL (m 390) k) (m 390) (slL (m 390) k).length 0 := by rw [Asv, if_pos (by omega), show w.toNat = 0 by omega]
                 rw [Dsave, e]
                 exact PRF.rd (RF.of (fun x hx => f1.1 x (by omega) (by omega)) (fun q hq => f1.2 q (by omega) (by omega) (by omega) (by omega) (by omega) (by omega))))
              | (refine ⟨_, rfl, ?_⟩
                 have e : Asv (m 390) k w = svC (slL (m 390) k) (m 390) (slL (m 390) k).length 1 := by rw [Asv, if_pos (by omega), show w.toNat = 1 by omega]
                 rw [Dsave, e]
                 exact PRF.rd (RF.of (fun x hx => f1.1 x (by omega) (by omega)) (fun q hq => f1.2 q (by omega) (by omega) (by omega) (by omega) (by omega) (by omega))))
              | (refine ⟨_, rfl, ?_⟩
                 have e : Asv (m 390) k w = svC (slL (m 390) k) (m 390) (slL (m 390) k).length 2 := by rw [Asv, if_pos (by omega), show w.toNat = 2 by omega]
                 rw [Dsave, e]
                 exact PRF.rd (RF.of (fun x hx => f1.1 x (by omega) (by omega)) (fun q hq => f1.2 q (by omega) (by omega) (by omega) (by omega) (by omega) (by omega))))
        · show jT _ _ 43 _ _ _ _
          refine tl_aload_n rfl rfl ?_
          refine tl_geti (c := 12) (k9 := 81) rfl rfl rfl ?_
          rw [g1.1]
          refine tl_goto (tgt := 66) rfl rfl ?_
          refine tl_iret rfl ?_
          -- leaf 4 at 66
          first
            | (refine ⟨_, rfl, ?_⟩
               have e : Asv (m 390) k w = svC (slL (m 390) k) (m 390) (slL (m 390) k).length 0 := by rw [Asv, if_pos (by omega), show w.toNat = 0 by omega]
               rw [Dsave, e]
               exact PRF.rd (RF.of (fun x hx => f1.1 x (by omega) (by omega)) (fun q hq => f1.2 q (by omega) (by omega) (by omega) (by omega) (by omega) (by omega))))
            | (refine ⟨_, rfl, ?_⟩
               have e : Asv (m 390) k w = svC (slL (m 390) k) (m 390) (slL (m 390) k).length 1 := by rw [Asv, if_pos (by omega), show w.toNat = 1 by omega]
               rw [Dsave, e]
               exact PRF.rd (RF.of (fun x hx => f1.1 x (by omega) (by omega)) (fun q hq => f1.2 q (by omega) (by omega) (by omega) (by omega) (by omega) (by omega))))
            | (refine ⟨_, rfl, ?_⟩
               have e : Asv (m 390) k w = svC (slL (m 390) k) (m 390) (slL (m 390) k).length 2 := by rw [Asv, if_pos (by omega), show w.toNat = 2 by omega]
               rw [Dsave, e]
               exact PRF.rd (RF.of (fun x hx => f1.1 x (by omega) (by omega)) (fun q hq => f1.2 q (by omega) (by omega) (by omega) (by omega) (by omega) (by omega))))
      · show jT _ _ 32 _ _ _ _
        have cw : ¬ (0 ≤ w ∧ w ≤ 2) := fun c => by rw [if_pos c] at p1; omega
        refine tl_iconst rfl ?_
        refine tl_iret rfl ?_
        -- leaf 5 at 33
        refine ⟨_, rfl, ?_⟩
        have e : Asv (m 390) k w = -1 := by rw [Asv, if_neg (fun q => by omega)]
        rw [Dsave, e]
        exact PRF.rd RF.rfl9
