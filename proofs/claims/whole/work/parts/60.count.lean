/-! count -/
set_option maxRecDepth 20000 in
set_option maxHeartbeats 1000000 in
theorem k_count (l : Launch) (h s : jH) (t w : Int) (hI : IC h s t) (hw9 : jr w) : cI l 185 [.ref 0, .int (jI w)] h (PK h t (Dcount s w)) := by
  have w1 := hw9.1
  have w2 := hw9.2
  have o5 := hI.1.o5
  have o70 := hI.1.o70
  have k1 := hI.ok.1
  have k2 := hI.ok.2.1
  have k3 := hI.ok.2.2.1
  have k4 := hI.ok.2.2.2.1
  have b5 : ∀ i : Nat, (i : Int) < h (2 + 2 * 1) 1 → jr (h (3 + 2 * 1) i) := by
    intro i hi
    have hi2 : (i : Int) < h 4 1 := hi
    have q := (hI.1.1 1 (by decide)).2.2.2 i (by show (i : Int) < s 390 70; omega)
    have e : h (3 + 2 * 1) i = s 390 (5 + 65 * 1 + 1 + i) := q.1
    have q1 := q.2.1
    have q2 := q.2.2
    exact ⟨by omega, by omega⟩
  have b3 : ∀ i : Nat, (i : Int) < h (2 + 2 * 0) 1 → jr (h (3 + 2 * 0) i) := by
    intro i hi
    have hi2 : (i : Int) < h 2 1 := hi
    have q := (hI.1.1 0 (by decide)).2.2.2 i (by show (i : Int) < s 390 5; omega)
    have e : h (3 + 2 * 0) i = s 390 (5 + 65 * 0 + 1 + i) := q.1
    have q1 := q.2.1
    have q2 := q.2.2
    exact ⟨by omega, by omega⟩
  refine cI.of rfl rfl ?_
  refine tl_iload_n rfl rfl ?_
  refine tl_bipush rfl rfl ?_
  refine tl_icmp_lt (tgt := 22) rfl rfl ⟨by omega, by omega⟩ ⟨by omega, by omega⟩ (fun c1 => ?_) (fun c1 => ?_)
  · skip
    refine tl_iload_n rfl rfl ?_
    refine tl_bipush rfl rfl ?_
    refine tl_icmp_lt (tgt := 44) rfl rfl ⟨by omega, by omega⟩ ⟨by omega, by omega⟩ (fun c2 => ?_) (fun c2 => ?_)
    · skip
      show jT _ _ 44 _ _ _ _
      refine tl_iload_n rfl rfl ?_
      by_cases ct3 : w < 0 ∨ 6 < w
      · refine tl_tabO (tgt := 163) rfl ⟨by omega, by omega⟩ ct3 rfl ?_
        refine tl_iconst rfl ?_
        refine tl_iret rfl ?_
        -- leaf 0 at 164
        first
          | (exfalso; omega)
          | (refine ⟨_, rfl, ?_⟩
             rw [Dcount, Aco]
             repeat (first | rw [if_pos (by omega)] | rw [if_neg (by omega)])
             exact PK.rd hI KF.rfl')
      · have ct3b : w = 0 ∨ w = 1 ∨ w = 2 ∨ w = 3 ∨ w = 4 ∨ w = 5 ∨ w = 6 := by omega
        rcases ct3b with ct3b | ct3b | ct3b | ct3b | ct3b | ct3b | ct3b
        · refine tl_tabI (off := 43) (tgt := 88) rfl ⟨by omega, by omega⟩ (by omega) (by omega) (by rw [ct3b]; rfl) rfl ?_
          refine tl_aload_n rfl rfl ?_
          refine tl_v0v (c9 := 11) (k_findAnchors l h (s 390) hI.1 hI.rt hI.te) rfl rfl rfl rfl rfl (Nat.le_of_ble_eq_true rfl) (fun h1 p1 => ?_)
          obtain ⟨g1, g2, g3, g4, fr⟩ := p1
          have kf : KF h h1 := KF.of (fun x hx => fr x (by omega))
          have hR1 := kf.rs hI.1
          have ok := hI.ok
          have k3 := ok.2.2.1
          have hg : OG h1 325 326 327 (ogT (s 390) (s 390 0)) (s 390 70).toNat := ⟨by rw [g3]; omega, fun i hi => g4 i (by omega)⟩
          have hv := ogT_v ok (lst := s 390 0) hI.rt.1.1
          refine tl_aload_n rfl rfl ?_
          show jT _ _ 93 _ _ _ _
          refine tl_getr (c := 11) (k9 := 11) (b := 319) rfl rfl rfl rfl ?_
          refine tl_geti (c := 0) (k9 := 5) rfl rfl rfl ?_
          rw [g1]
          refine tl_iret rfl ?_
          -- leaf 1 at 99
          first
            | (exfalso; omega)
            | (refine ⟨_, rfl, ?_⟩
               rw [Dcount, Aco]
               repeat (first | rw [if_pos (by omega)] | rw [if_neg (by omega)])
               exact PK.rd hI kf)
        · refine tl_tabI (off := 55) (tgt := 100) rfl ⟨by omega, by omega⟩ (by omega) (by omega) (by rw [ct3b]; rfl) rfl ?_
          refine tl_aload_n rfl rfl ?_
          refine tl_v0v (c9 := 11) (k_findAnchors l h (s 390) hI.1 hI.rt hI.te) rfl rfl rfl rfl rfl (Nat.le_of_ble_eq_true rfl) (fun h1 p1 => ?_)
          obtain ⟨g1, g2, g3, g4, fr⟩ := p1
          have kf : KF h h1 := KF.of (fun x hx => fr x (by omega))
          have hR1 := kf.rs hI.1
          have ok := hI.ok
          have k3 := ok.2.2.1
          have hg : OG h1 325 326 327 (ogT (s 390) (s 390 0)) (s 390 70).toNat := ⟨by rw [g3]; omega, fun i hi => g4 i (by omega)⟩
          have hv := ogT_v ok (lst := s 390 0) hI.rt.1.1
          refine tl_aload_n rfl rfl ?_
          refine tl_getr (c := 11) (k9 := 11) (b := 319) rfl rfl rfl rfl ?_
          show jT _ _ 108 _ _ _ _
          refine tl_getr (c := 0) (k9 := 6) (b := 325) rfl rfl rfl rfl ?_
          refine tl_v0i (c9 := 3) (k_countP l Or325 h1 _ _ hg hv) rfl rfl rfl rfl rfl (Nat.le_of_ble_eq_true rfl) (fun z2 h2 p2 => ?_)
          obtain ⟨q2, rfl⟩ := p2
          have q2 := q2.symm
          subst q2
          refine tl_iret rfl ?_
          -- leaf 2 at 114
          first
            | (exfalso; omega)
            | (refine ⟨_, rfl, ?_⟩
               rw [Dcount, Aco]
               repeat (first | rw [if_pos (by omega)] | rw [if_neg (by omega)])
               exact PK.rd hI kf)
        · refine tl_tabI (off := 70) (tgt := 115) rfl ⟨by omega, by omega⟩ (by omega) (by omega) (by rw [ct3b]; rfl) rfl ?_
          refine tl_aload_n rfl rfl ?_
          refine tl_v0v (c9 := 11) (k_findAnchors l h (s 390) hI.1 hI.rt hI.te) rfl rfl rfl rfl rfl (Nat.le_of_ble_eq_true rfl) (fun h1 p1 => ?_)
          obtain ⟨g1, g2, g3, g4, fr⟩ := p1
          have kf : KF h h1 := KF.of (fun x hx => fr x (by omega))
          have hR1 := kf.rs hI.1
          have ok := hI.ok
          have k3 := ok.2.2.1
          have hg : OG h1 325 326 327 (ogT (s 390) (s 390 0)) (s 390 70).toNat := ⟨by rw [g3]; omega, fun i hi => g4 i (by omega)⟩
          have hv := ogT_v ok (lst := s 390 0) hI.rt.1.1
          refine tl_aload_n rfl rfl ?_
          refine tl_v0i (c9 := 11) (k_packA l h1 (s 390) hR1 (s 390 0) hI.rt.1.1 g3 g4) rfl rfl rfl rfl rfl (Nat.le_of_ble_eq_true rfl) (fun z5 h5 p5 => ?_)
          obtain ⟨rfl, k5, f5⟩ := p5
          show jT _ _ 123 _ _ _ _
          refine tl_iret rfl ?_
          -- leaf 3 at 123
          first
            | (exfalso; omega)
            | (refine ⟨_, rfl, ?_⟩
               rw [Dcount, Aco]
               repeat (first | rw [if_pos (by omega)] | rw [if_neg (by omega)])
               exact PK.rd hI (kf.trans (KF.of (fun x hx => f5 x (by omega)))))
        · refine tl_tabI (off := 79) (tgt := 124) rfl ⟨by omega, by omega⟩ (by omega) (by omega) (by rw [ct3b]; rfl) rfl ?_
          refine tl_aload_n rfl rfl ?_
          refine tl_getr (c := 11) (k9 := 0) (b := 1) rfl rfl rfl rfl ?_
          refine tl_v0i (c9 := 9) (k_cntB l h (fun i hi => by rw [hI.1.ba hi]; exact (hI.ok.2.2.2.2.2.2) i hi)) rfl rfl rfl rfl rfl (Nat.le_of_ble_eq_true rfl) (fun z3 h3 p3 => ?_)
          obtain ⟨q3, rfl⟩ := p3
          have q3 := q3.symm
          subst q3
          rw [sm_congr 64 (fun i hi => hI.1.ba hi)]
          refine tl_iret rfl ?_
          -- leaf 4 at 131
          first
            | (exfalso; omega)
            | (refine ⟨_, rfl, ?_⟩
               rw [Dcount, Aco]
               repeat (first | rw [if_pos (by omega)] | rw [if_neg (by omega)])
               exact PK.rd hI KF.rfl')
        · refine tl_tabI (off := 87) (tgt := 132) rfl ⟨by omega, by omega⟩ (by omega) (by omega) (by rw [ct3b]; rfl) rfl ?_
          refine tl_aload_n rfl rfl ?_
          refine tl_getr (c := 11) (k9 := 0) (b := 1) rfl rfl rfl rfl ?_
          show jT _ _ 136 _ _ _ _
          refine tl_getr (c := 9) (k9 := 1) (b := 4) rfl rfl rfl rfl ?_
          refine tl_aload_n rfl rfl ?_
          refine tl_getr (c := 11) (k9 := 0) (b := 1) rfl rfl rfl rfl ?_
          refine tl_getr (c := 9) (k9 := 0) (b := 2) rfl rfl rfl rfl ?_
          refine tl_v1i (c9 := 8) (c_Row_alike l (RSf_S 1 (by decide)) (RSf_S 0 (by decide)) h (by show 0 ≤ h 4 1; omega) (by show h 4 1 ≤ _; omega) (by show 0 ≤ h 2 1; omega) (by show h 2 1 ≤ _; omega) b5 b3) rfl rfl rfl rfl rfl (Nat.le_of_ble_eq_true rfl) (fun z4 h4 p4 => ?_)
          obtain ⟨q4, p4⟩ := p4
          have q4 := q4.symm
          subst q4
          have e4 : z4 = alk (fun i => s 390 (71 + i)) (fun i => s 390 (6 + i)) (min (s 390 70) (s 390 5)).toNat := by
            rw [p4]
            show alk (h 5) (h 3) (min (h 4 1) (h 2 1)).toNat = _
            rw [o70, o5]
            refine alk_congr _ (fun i hi => ⟨?_, ?_⟩)
            · have q := ((hI.1.1 1 (by decide)).2.2.2 i (by show (i : Int) < s 390 70; omega)).1; rw [show 5 + 65 * 1 + 1 + i = 71 + i by omega] at q; exact q
            · have q := ((hI.1.1 0 (by decide)).2.2.2 i (by show (i : Int) < s 390 5; omega)).1; rw [show 5 + 65 * 0 + 1 + i = 6 + i by omega] at q; exact q
          refine tl_iret rfl ?_
          -- leaf 5 at 149
          first
            | (exfalso; omega)
            | (refine ⟨_, rfl, ?_⟩
               rw [Dcount, Aco]
               repeat (first | rw [if_pos (by omega)] | rw [if_neg (by omega)])
               rw [← e4]
               exact PK.rd hI KF.rfl')
        · refine tl_tabI (off := 105) (tgt := 150) rfl ⟨by omega, by omega⟩ (by omega) (by omega) (by rw [ct3b]; rfl) rfl ?_
          refine tl_aload_n rfl rfl ?_
          show jT _ _ 151 _ _ _ _
          refine tl_geti (c := 11) (k9 := 4) rfl rfl rfl ?_
          rw [hI.2.1.1]
          refine tl_iret rfl ?_
          -- leaf 6 at 154
          first
            | (exfalso; omega)
            | (refine ⟨_, rfl, ?_⟩
               rw [Dcount, Aco]
               repeat (first | rw [if_pos (by omega)] | rw [if_neg (by omega)])
               exact PK.rd hI KF.rfl')
        · refine tl_tabI (off := 110) (tgt := 155) rfl ⟨by omega, by omega⟩ (by omega) (by omega) (by rw [ct3b]; rfl) rfl ?_
          refine tl_aload_n rfl rfl ?_
          refine tl_getr (c := 11) (k9 := 5) (b := 309) rfl rfl rfl rfl ?_
          refine tl_geti (c := 8) (k9 := 1) rfl rfl rfl ?_
          rw [hI.2.2.1.1]
          refine tl_iret rfl ?_
          -- leaf 7 at 162
          first
            | (exfalso; omega)
            | (refine ⟨_, rfl, ?_⟩
               rw [Dcount, Aco]
               repeat (first | rw [if_pos (by omega)] | rw [if_neg (by omega)])
               exact PK.rd hI KF.rfl')
    · show jT _ _ 28 _ _ _ _
      refine tl_iload_n rfl rfl ?_
      show jT _ _ 29 _ _ _ _
      refine tl_bipush rfl rfl ?_
      refine tl_icmp_ge (tgt := 44) rfl rfl ⟨by omega, by omega⟩ ⟨by omega, by omega⟩ (fun c4 => ?_) (fun c4 => ?_)
      · skip
        refine tl_iload_n rfl rfl ?_
        by_cases ct5 : w < 0 ∨ 6 < w
        · refine tl_tabO (tgt := 163) rfl ⟨by omega, by omega⟩ ct5 rfl ?_
          refine tl_iconst rfl ?_
          refine tl_iret rfl ?_
          -- leaf 8 at 164
          first
            | (exfalso; omega)
            | (refine ⟨_, rfl, ?_⟩
               rw [Dcount, Aco]
               repeat (first | rw [if_pos (by omega)] | rw [if_neg (by omega)])
               exact PK.rd hI KF.rfl')
        · have ct5b : w = 0 ∨ w = 1 ∨ w = 2 ∨ w = 3 ∨ w = 4 ∨ w = 5 ∨ w = 6 := by omega
          rcases ct5b with ct5b | ct5b | ct5b | ct5b | ct5b | ct5b | ct5b
          · refine tl_tabI (off := 43) (tgt := 88) rfl ⟨by omega, by omega⟩ (by omega) (by omega) (by rw [ct5b]; rfl) rfl ?_
            refine tl_aload_n rfl rfl ?_
            show jT _ _ 89 _ _ _ _
            refine tl_v0v (c9 := 11) (k_findAnchors l h (s 390) hI.1 hI.rt hI.te) rfl rfl rfl rfl rfl (Nat.le_of_ble_eq_true rfl) (fun h1 p1 => ?_)
            obtain ⟨g1, g2, g3, g4, fr⟩ := p1
            have kf : KF h h1 := KF.of (fun x hx => fr x (by omega))
            have hR1 := kf.rs hI.1
            have ok := hI.ok
            have k3 := ok.2.2.1
            have hg : OG h1 325 326 327 (ogT (s 390) (s 390 0)) (s 390 70).toNat := ⟨by rw [g3]; omega, fun i hi => g4 i (by omega)⟩
            have hv := ogT_v ok (lst := s 390 0) hI.rt.1.1
            refine tl_aload_n rfl rfl ?_
            refine tl_getr (c := 11) (k9 := 11) (b := 319) rfl rfl rfl rfl ?_
            refine tl_geti (c := 0) (k9 := 5) rfl rfl rfl ?_
            rw [g1]
            refine tl_iret rfl ?_
            -- leaf 9 at 99
            first
              | (exfalso; omega)
              | (refine ⟨_, rfl, ?_⟩
                 rw [Dcount, Aco]
                 repeat (first | rw [if_pos (by omega)] | rw [if_neg (by omega)])
                 exact PK.rd hI kf)
          · refine tl_tabI (off := 55) (tgt := 100) rfl ⟨by omega, by omega⟩ (by omega) (by omega) (by rw [ct5b]; rfl) rfl ?_
            refine tl_aload_n rfl rfl ?_
            refine tl_v0v (c9 := 11) (k_findAnchors l h (s 390) hI.1 hI.rt hI.te) rfl rfl rfl rfl rfl (Nat.le_of_ble_eq_true rfl) (fun h1 p1 => ?_)
            obtain ⟨g1, g2, g3, g4, fr⟩ := p1
            have kf : KF h h1 := KF.of (fun x hx => fr x (by omega))
            have hR1 := kf.rs hI.1
            have ok := hI.ok
            have k3 := ok.2.2.1
            have hg : OG h1 325 326 327 (ogT (s 390) (s 390 0)) (s 390 70).toNat := ⟨by rw [g3]; omega, fun i hi => g4 i (by omega)⟩
            have hv := ogT_v ok (lst := s 390 0) hI.rt.1.1
            show jT _ _ 104 _ _ _ _
            refine tl_aload_n rfl rfl ?_
            refine tl_getr (c := 11) (k9 := 11) (b := 319) rfl rfl rfl rfl ?_
            refine tl_getr (c := 0) (k9 := 6) (b := 325) rfl rfl rfl rfl ?_
            refine tl_v0i (c9 := 3) (k_countP l Or325 h1 _ _ hg hv) rfl rfl rfl rfl rfl (Nat.le_of_ble_eq_true rfl) (fun z2 h2 p2 => ?_)
            obtain ⟨q2, rfl⟩ := p2
            have q2 := q2.symm
            subst q2
            refine tl_iret rfl ?_
            -- leaf 10 at 114
            first
              | (exfalso; omega)
              | (refine ⟨_, rfl, ?_⟩
                 rw [Dcount, Aco]
                 repeat (first | rw [if_pos (by omega)] | rw [if_neg (by omega)])
                 exact PK.rd hI kf)
          · refine tl_tabI (off := 70) (tgt := 115) rfl ⟨by omega, by omega⟩ (by omega) (by omega) (by rw [ct5b]; rfl) rfl ?_
            refine tl_aload_n rfl rfl ?_
            refine tl_v0v (c9 := 11) (k_findAnchors l h (s 390) hI.1 hI.rt hI.te) rfl rfl rfl rfl rfl (Nat.le_of_ble_eq_true rfl) (fun h1 p1 => ?_)
            obtain ⟨g1, g2, g3, g4, fr⟩ := p1
            have kf : KF h h1 := KF.of (fun x hx => fr x (by omega))
            have hR1 := kf.rs hI.1
            have ok := hI.ok
            have k3 := ok.2.2.1
            have hg : OG h1 325 326 327 (ogT (s 390) (s 390 0)) (s 390 70).toNat := ⟨by rw [g3]; omega, fun i hi => g4 i (by omega)⟩
            have hv := ogT_v ok (lst := s 390 0) hI.rt.1.1
            show jT _ _ 119 _ _ _ _
            refine tl_aload_n rfl rfl ?_
            refine tl_v0i (c9 := 11) (k_packA l h1 (s 390) hR1 (s 390 0) hI.rt.1.1 g3 g4) rfl rfl rfl rfl rfl (Nat.le_of_ble_eq_true rfl) (fun z5 h5 p5 => ?_)
            obtain ⟨rfl, k5, f5⟩ := p5
            refine tl_iret rfl ?_
            -- leaf 11 at 123
            first
              | (exfalso; omega)
              | (refine ⟨_, rfl, ?_⟩
                 rw [Dcount, Aco]
                 repeat (first | rw [if_pos (by omega)] | rw [if_neg (by omega)])
                 exact PK.rd hI (kf.trans (KF.of (fun x hx => f5 x (by omega)))))
          · refine tl_tabI (off := 79) (tgt := 124) rfl ⟨by omega, by omega⟩ (by omega) (by omega) (by rw [ct5b]; rfl) rfl ?_
            refine tl_aload_n rfl rfl ?_
            refine tl_getr (c := 11) (k9 := 0) (b := 1) rfl rfl rfl rfl ?_
            refine tl_v0i (c9 := 9) (k_cntB l h (fun i hi => by rw [hI.1.ba hi]; exact (hI.ok.2.2.2.2.2.2) i hi)) rfl rfl rfl rfl rfl (Nat.le_of_ble_eq_true rfl) (fun z3 h3 p3 => ?_)
            obtain ⟨q3, rfl⟩ := p3
            have q3 := q3.symm
            subst q3
            rw [sm_congr 64 (fun i hi => hI.1.ba hi)]
            refine tl_iret rfl ?_
            -- leaf 12 at 131
            first
              | (exfalso; omega)
              | (refine ⟨_, rfl, ?_⟩
                 rw [Dcount, Aco]
                 repeat (first | rw [if_pos (by omega)] | rw [if_neg (by omega)])
                 exact PK.rd hI KF.rfl')
          · refine tl_tabI (off := 87) (tgt := 132) rfl ⟨by omega, by omega⟩ (by omega) (by omega) (by rw [ct5b]; rfl) rfl ?_
            show jT _ _ 132 _ _ _ _
            refine tl_aload_n rfl rfl ?_
            refine tl_getr (c := 11) (k9 := 0) (b := 1) rfl rfl rfl rfl ?_
            refine tl_getr (c := 9) (k9 := 1) (b := 4) rfl rfl rfl rfl ?_
            refine tl_aload_n rfl rfl ?_
            refine tl_getr (c := 11) (k9 := 0) (b := 1) rfl rfl rfl rfl ?_
            refine tl_getr (c := 9) (k9 := 0) (b := 2) rfl rfl rfl rfl ?_
            refine tl_v1i (c9 := 8) (c_Row_alike l (RSf_S 1 (by decide)) (RSf_S 0 (by decide)) h (by show 0 ≤ h 4 1; omega) (by show h 4 1 ≤ _; omega) (by show 0 ≤ h 2 1; omega) (by show h 2 1 ≤ _; omega) b5 b3) rfl rfl rfl rfl rfl (Nat.le_of_ble_eq_true rfl) (fun z4 h4 p4 => ?_)
            obtain ⟨q4, p4⟩ := p4
            have q4 := q4.symm
            subst q4
            have e4 : z4 = alk (fun i => s 390 (71 + i)) (fun i => s 390 (6 + i)) (min (s 390 70) (s 390 5)).toNat := by
              rw [p4]
              show alk (h 5) (h 3) (min (h 4 1) (h 2 1)).toNat = _
              rw [o70, o5]
              refine alk_congr _ (fun i hi => ⟨?_, ?_⟩)
              · have q := ((hI.1.1 1 (by decide)).2.2.2 i (by show (i : Int) < s 390 70; omega)).1; rw [show 5 + 65 * 1 + 1 + i = 71 + i by omega] at q; exact q
              · have q := ((hI.1.1 0 (by decide)).2.2.2 i (by show (i : Int) < s 390 5; omega)).1; rw [show 5 + 65 * 0 + 1 + i = 6 + i by omega] at q; exact q
            show jT _ _ 149 _ _ _ _
            refine tl_iret rfl ?_
            -- leaf 13 at 149
            first
              | (exfalso; omega)
              | (refine ⟨_, rfl, ?_⟩
                 rw [Dcount, Aco]
                 repeat (first | rw [if_pos (by omega)] | rw [if_neg (by omega)])
                 rw [← e4]
                 exact PK.rd hI KF.rfl')
          · refine tl_tabI (off := 105) (tgt := 150) rfl ⟨by omega, by omega⟩ (by omega) (by omega) (by rw [ct5b]; rfl) rfl ?_
            refine tl_aload_n rfl rfl ?_
            refine tl_geti (c := 11) (k9 := 4) rfl rfl rfl ?_
            rw [hI.2.1.1]
            refine tl_iret rfl ?_
            -- leaf 14 at 154
            first
              | (exfalso; omega)
              | (refine ⟨_, rfl, ?_⟩
                 rw [Dcount, Aco]
                 repeat (first | rw [if_pos (by omega)] | rw [if_neg (by omega)])
                 exact PK.rd hI KF.rfl')
          · refine tl_tabI (off := 110) (tgt := 155) rfl ⟨by omega, by omega⟩ (by omega) (by omega) (by rw [ct5b]; rfl) rfl ?_
            refine tl_aload_n rfl rfl ?_
            refine tl_getr (c := 11) (k9 := 5) (b := 309) rfl rfl rfl rfl ?_
            refine tl_geti (c := 8) (k9 := 1) rfl rfl rfl ?_
            rw [hI.2.2.1.1]
            show jT _ _ 162 _ _ _ _
            refine tl_iret rfl ?_
            -- leaf 15 at 162
            first
              | (exfalso; omega)
              | (refine ⟨_, rfl, ?_⟩
                 rw [Dcount, Aco]
                 repeat (first | rw [if_pos (by omega)] | rw [if_neg (by omega)])
                 exact PK.rd hI KF.rfl')
      · show jT _ _ 34 _ _ _ _
        refine tl_aload_n rfl rfl ?_
        refine tl_getr (c := 11) (k9 := 6) (b := 311) rfl rfl rfl rfl ?_
        refine tl_iload_n rfl rfl ?_
        refine tl_bipush rfl rfl ?_
        refine tl_isub rfl ?_
        refine tl_iald (n := 5) rfl rfl rfl (by omega) (by omega) ?_
        rw [hI.te (w - 13).toNat (by omega)]
        show jT _ _ 43 _ _ _ _
        refine tl_iret rfl ?_
        -- leaf 16 at 43
        first
          | (exfalso; omega)
          | (refine ⟨_, rfl, ?_⟩
             rw [Dcount, Aco]
             repeat (first | rw [if_pos (by omega)] | rw [if_neg (by omega)])
             exact PK.rd hI KF.rfl')
  · show jT _ _ 6 _ _ _ _
    refine tl_iload_n rfl rfl ?_
    refine tl_bipush rfl rfl ?_
    refine tl_icmp_ge (tgt := 22) rfl rfl ⟨by omega, by omega⟩ ⟨by omega, by omega⟩ (fun c6 => ?_) (fun c6 => ?_)
    · skip
      refine tl_iload_n rfl rfl ?_
      refine tl_bipush rfl rfl ?_
      refine tl_icmp_lt (tgt := 44) rfl rfl ⟨by omega, by omega⟩ ⟨by omega, by omega⟩ (fun c7 => ?_) (fun c7 => ?_)
      · skip
        show jT _ _ 44 _ _ _ _
        refine tl_iload_n rfl rfl ?_
        by_cases ct8 : w < 0 ∨ 6 < w
        · refine tl_tabO (tgt := 163) rfl ⟨by omega, by omega⟩ ct8 rfl ?_
          refine tl_iconst rfl ?_
          refine tl_iret rfl ?_
          -- leaf 17 at 164
          first
            | (exfalso; omega)
            | (refine ⟨_, rfl, ?_⟩
               rw [Dcount, Aco]
               repeat (first | rw [if_pos (by omega)] | rw [if_neg (by omega)])
               exact PK.rd hI KF.rfl')
        · have ct8b : w = 0 ∨ w = 1 ∨ w = 2 ∨ w = 3 ∨ w = 4 ∨ w = 5 ∨ w = 6 := by omega
          rcases ct8b with ct8b | ct8b | ct8b | ct8b | ct8b | ct8b | ct8b
          · refine tl_tabI (off := 43) (tgt := 88) rfl ⟨by omega, by omega⟩ (by omega) (by omega) (by rw [ct8b]; rfl) rfl ?_
            refine tl_aload_n rfl rfl ?_
            refine tl_v0v (c9 := 11) (k_findAnchors l h (s 390) hI.1 hI.rt hI.te) rfl rfl rfl rfl rfl (Nat.le_of_ble_eq_true rfl) (fun h1 p1 => ?_)
            obtain ⟨g1, g2, g3, g4, fr⟩ := p1
            have kf : KF h h1 := KF.of (fun x hx => fr x (by omega))
            have hR1 := kf.rs hI.1
            have ok := hI.ok
            have k3 := ok.2.2.1
            have hg : OG h1 325 326 327 (ogT (s 390) (s 390 0)) (s 390 70).toNat := ⟨by rw [g3]; omega, fun i hi => g4 i (by omega)⟩
            have hv := ogT_v ok (lst := s 390 0) hI.rt.1.1
            refine tl_aload_n rfl rfl ?_
            show jT _ _ 93 _ _ _ _
            refine tl_getr (c := 11) (k9 := 11) (b := 319) rfl rfl rfl rfl ?_
            refine tl_geti (c := 0) (k9 := 5) rfl rfl rfl ?_
            rw [g1]
            refine tl_iret rfl ?_
            -- leaf 18 at 99
            first
              | (exfalso; omega)
              | (refine ⟨_, rfl, ?_⟩
                 rw [Dcount, Aco]
                 repeat (first | rw [if_pos (by omega)] | rw [if_neg (by omega)])
                 exact PK.rd hI kf)
          · refine tl_tabI (off := 55) (tgt := 100) rfl ⟨by omega, by omega⟩ (by omega) (by omega) (by rw [ct8b]; rfl) rfl ?_
            refine tl_aload_n rfl rfl ?_
            refine tl_v0v (c9 := 11) (k_findAnchors l h (s 390) hI.1 hI.rt hI.te) rfl rfl rfl rfl rfl (Nat.le_of_ble_eq_true rfl) (fun h1 p1 => ?_)
            obtain ⟨g1, g2, g3, g4, fr⟩ := p1
            have kf : KF h h1 := KF.of (fun x hx => fr x (by omega))
            have hR1 := kf.rs hI.1
            have ok := hI.ok
            have k3 := ok.2.2.1
            have hg : OG h1 325 326 327 (ogT (s 390) (s 390 0)) (s 390 70).toNat := ⟨by rw [g3]; omega, fun i hi => g4 i (by omega)⟩
            have hv := ogT_v ok (lst := s 390 0) hI.rt.1.1
            refine tl_aload_n rfl rfl ?_
            refine tl_getr (c := 11) (k9 := 11) (b := 319) rfl rfl rfl rfl ?_
            show jT _ _ 108 _ _ _ _
            refine tl_getr (c := 0) (k9 := 6) (b := 325) rfl rfl rfl rfl ?_
            refine tl_v0i (c9 := 3) (k_countP l Or325 h1 _ _ hg hv) rfl rfl rfl rfl rfl (Nat.le_of_ble_eq_true rfl) (fun z2 h2 p2 => ?_)
            obtain ⟨q2, rfl⟩ := p2
            have q2 := q2.symm
            subst q2
            refine tl_iret rfl ?_
            -- leaf 19 at 114
            first
              | (exfalso; omega)
              | (refine ⟨_, rfl, ?_⟩
                 rw [Dcount, Aco]
                 repeat (first | rw [if_pos (by omega)] | rw [if_neg (by omega)])
                 exact PK.rd hI kf)
          · refine tl_tabI (off := 70) (tgt := 115) rfl ⟨by omega, by omega⟩ (by omega) (by omega) (by rw [ct8b]; rfl) rfl ?_
            refine tl_aload_n rfl rfl ?_
            refine tl_v0v (c9 := 11) (k_findAnchors l h (s 390) hI.1 hI.rt hI.te) rfl rfl rfl rfl rfl (Nat.le_of_ble_eq_true rfl) (fun h1 p1 => ?_)
            obtain ⟨g1, g2, g3, g4, fr⟩ := p1
            have kf : KF h h1 := KF.of (fun x hx => fr x (by omega))
            have hR1 := kf.rs hI.1
            have ok := hI.ok
            have k3 := ok.2.2.1
            have hg : OG h1 325 326 327 (ogT (s 390) (s 390 0)) (s 390 70).toNat := ⟨by rw [g3]; omega, fun i hi => g4 i (by omega)⟩
            have hv := ogT_v ok (lst := s 390 0) hI.rt.1.1
            refine tl_aload_n rfl rfl ?_
            refine tl_v0i (c9 := 11) (k_packA l h1 (s 390) hR1 (s 390 0) hI.rt.1.1 g3 g4) rfl rfl rfl rfl rfl (Nat.le_of_ble_eq_true rfl) (fun z5 h5 p5 => ?_)
            obtain ⟨rfl, k5, f5⟩ := p5
            show jT _ _ 123 _ _ _ _
            refine tl_iret rfl ?_
            -- leaf 20 at 123
            first
              | (exfalso; omega)
              | (refine ⟨_, rfl, ?_⟩
                 rw [Dcount, Aco]
                 repeat (first | rw [if_pos (by omega)] | rw [if_neg (by omega)])
                 exact PK.rd hI (kf.trans (KF.of (fun x hx => f5 x (by omega)))))
          · refine tl_tabI (off := 79) (tgt := 124) rfl ⟨by omega, by omega⟩ (by omega) (by omega) (by rw [ct8b]; rfl) rfl ?_
            refine tl_aload_n rfl rfl ?_
            refine tl_getr (c := 11) (k9 := 0) (b := 1) rfl rfl rfl rfl ?_
            refine tl_v0i (c9 := 9) (k_cntB l h (fun i hi => by rw [hI.1.ba hi]; exact (hI.ok.2.2.2.2.2.2) i hi)) rfl rfl rfl rfl rfl (Nat.le_of_ble_eq_true rfl) (fun z3 h3 p3 => ?_)
            obtain ⟨q3, rfl⟩ := p3
            have q3 := q3.symm
            subst q3
            rw [sm_congr 64 (fun i hi => hI.1.ba hi)]
            refine tl_iret rfl ?_
            -- leaf 21 at 131
            first
              | (exfalso; omega)
              | (refine ⟨_, rfl, ?_⟩
                 rw [Dcount, Aco]
                 repeat (first | rw [if_pos (by omega)] | rw [if_neg (by omega)])
                 exact PK.rd hI KF.rfl')
          · refine tl_tabI (off := 87) (tgt := 132) rfl ⟨by omega, by omega⟩ (by omega) (by omega) (by rw [ct8b]; rfl) rfl ?_
            refine tl_aload_n rfl rfl ?_
            refine tl_getr (c := 11) (k9 := 0) (b := 1) rfl rfl rfl rfl ?_
            show jT _ _ 136 _ _ _ _
            refine tl_getr (c := 9) (k9 := 1) (b := 4) rfl rfl rfl rfl ?_
            refine tl_aload_n rfl rfl ?_
            refine tl_getr (c := 11) (k9 := 0) (b := 1) rfl rfl rfl rfl ?_
            refine tl_getr (c := 9) (k9 := 0) (b := 2) rfl rfl rfl rfl ?_
            refine tl_v1i (c9 := 8) (c_Row_alike l (RSf_S 1 (by decide)) (RSf_S 0 (by decide)) h (by show 0 ≤ h 4 1; omega) (by show h 4 1 ≤ _; omega) (by show 0 ≤ h 2 1; omega) (by show h 2 1 ≤ _; omega) b5 b3) rfl rfl rfl rfl rfl (Nat.le_of_ble_eq_true rfl) (fun z4 h4 p4 => ?_)
            obtain ⟨q4, p4⟩ := p4
            have q4 := q4.symm
            subst q4
            have e4 : z4 = alk (fun i => s 390 (71 + i)) (fun i => s 390 (6 + i)) (min (s 390 70) (s 390 5)).toNat := by
              rw [p4]
              show alk (h 5) (h 3) (min (h 4 1) (h 2 1)).toNat = _
              rw [o70, o5]
              refine alk_congr _ (fun i hi => ⟨?_, ?_⟩)
              · have q := ((hI.1.1 1 (by decide)).2.2.2 i (by show (i : Int) < s 390 70; omega)).1; rw [show 5 + 65 * 1 + 1 + i = 71 + i by omega] at q; exact q
              · have q := ((hI.1.1 0 (by decide)).2.2.2 i (by show (i : Int) < s 390 5; omega)).1; rw [show 5 + 65 * 0 + 1 + i = 6 + i by omega] at q; exact q
            refine tl_iret rfl ?_
            -- leaf 22 at 149
            first
              | (exfalso; omega)
              | (refine ⟨_, rfl, ?_⟩
                 rw [Dcount, Aco]
                 repeat (first | rw [if_pos (by omega)] | rw [if_neg (by omega)])
                 rw [← e4]
                 exact PK.rd hI KF.rfl')
          · refine tl_tabI (off := 105) (tgt := 150) rfl ⟨by omega, by omega⟩ (by omega) (by omega) (by rw [ct8b]; rfl) rfl ?_
            refine tl_aload_n rfl rfl ?_
            show jT _ _ 151 _ _ _ _
            refine tl_geti (c := 11) (k9 := 4) rfl rfl rfl ?_
            rw [hI.2.1.1]
            refine tl_iret rfl ?_
            -- leaf 23 at 154
            first
              | (exfalso; omega)
              | (refine ⟨_, rfl, ?_⟩
                 rw [Dcount, Aco]
                 repeat (first | rw [if_pos (by omega)] | rw [if_neg (by omega)])
                 exact PK.rd hI KF.rfl')
          · refine tl_tabI (off := 110) (tgt := 155) rfl ⟨by omega, by omega⟩ (by omega) (by omega) (by rw [ct8b]; rfl) rfl ?_
            refine tl_aload_n rfl rfl ?_
            refine tl_getr (c := 11) (k9 := 5) (b := 309) rfl rfl rfl rfl ?_
            refine tl_geti (c := 8) (k9 := 1) rfl rfl rfl ?_
            rw [hI.2.2.1.1]
            refine tl_iret rfl ?_
            -- leaf 24 at 162
            first
              | (exfalso; omega)
              | (refine ⟨_, rfl, ?_⟩
                 rw [Dcount, Aco]
                 repeat (first | rw [if_pos (by omega)] | rw [if_neg (by omega)])
                 exact PK.rd hI KF.rfl')
      · show jT _ _ 28 _ _ _ _
        refine tl_iload_n rfl rfl ?_
        show jT _ _ 29 _ _ _ _
        refine tl_bipush rfl rfl ?_
        refine tl_icmp_ge (tgt := 44) rfl rfl ⟨by omega, by omega⟩ ⟨by omega, by omega⟩ (fun c9 => ?_) (fun c9 => ?_)
        · skip
          refine tl_iload_n rfl rfl ?_
          by_cases ct10 : w < 0 ∨ 6 < w
          · refine tl_tabO (tgt := 163) rfl ⟨by omega, by omega⟩ ct10 rfl ?_
            refine tl_iconst rfl ?_
            refine tl_iret rfl ?_
            -- leaf 25 at 164
            first
              | (exfalso; omega)
              | (refine ⟨_, rfl, ?_⟩
                 rw [Dcount, Aco]
                 repeat (first | rw [if_pos (by omega)] | rw [if_neg (by omega)])
                 exact PK.rd hI KF.rfl')
          · have ct10b : w = 0 ∨ w = 1 ∨ w = 2 ∨ w = 3 ∨ w = 4 ∨ w = 5 ∨ w = 6 := by omega
            rcases ct10b with ct10b | ct10b | ct10b | ct10b | ct10b | ct10b | ct10b
            · refine tl_tabI (off := 43) (tgt := 88) rfl ⟨by omega, by omega⟩ (by omega) (by omega) (by rw [ct10b]; rfl) rfl ?_
              refine tl_aload_n rfl rfl ?_
              show jT _ _ 89 _ _ _ _
              refine tl_v0v (c9 := 11) (k_findAnchors l h (s 390) hI.1 hI.rt hI.te) rfl rfl rfl rfl rfl (Nat.le_of_ble_eq_true rfl) (fun h1 p1 => ?_)
              obtain ⟨g1, g2, g3, g4, fr⟩ := p1
              have kf : KF h h1 := KF.of (fun x hx => fr x (by omega))
              have hR1 := kf.rs hI.1
              have ok := hI.ok
              have k3 := ok.2.2.1
              have hg : OG h1 325 326 327 (ogT (s 390) (s 390 0)) (s 390 70).toNat := ⟨by rw [g3]; omega, fun i hi => g4 i (by omega)⟩
              have hv := ogT_v ok (lst := s 390 0) hI.rt.1.1
              refine tl_aload_n rfl rfl ?_
              refine tl_getr (c := 11) (k9 := 11) (b := 319) rfl rfl rfl rfl ?_
              refine tl_geti (c := 0) (k9 := 5) rfl rfl rfl ?_
              rw [g1]
              refine tl_iret rfl ?_
              -- leaf 26 at 99
              first
                | (exfalso; omega)
                | (refine ⟨_, rfl, ?_⟩
                   rw [Dcount, Aco]
                   repeat (first | rw [if_pos (by omega)] | rw [if_neg (by omega)])
                   exact PK.rd hI kf)
            · refine tl_tabI (off := 55) (tgt := 100) rfl ⟨by omega, by omega⟩ (by omega) (by omega) (by rw [ct10b]; rfl) rfl ?_
              refine tl_aload_n rfl rfl ?_
              refine tl_v0v (c9 := 11) (k_findAnchors l h (s 390) hI.1 hI.rt hI.te) rfl rfl rfl rfl rfl (Nat.le_of_ble_eq_true rfl) (fun h1 p1 => ?_)
              obtain ⟨g1, g2, g3, g4, fr⟩ := p1
              have kf : KF h h1 := KF.of (fun x hx => fr x (by omega))
              have hR1 := kf.rs hI.1
              have ok := hI.ok
              have k3 := ok.2.2.1
              have hg : OG h1 325 326 327 (ogT (s 390) (s 390 0)) (s 390 70).toNat := ⟨by rw [g3]; omega, fun i hi => g4 i (by omega)⟩
              have hv := ogT_v ok (lst := s 390 0) hI.rt.1.1
              show jT _ _ 104 _ _ _ _
              refine tl_aload_n rfl rfl ?_
              refine tl_getr (c := 11) (k9 := 11) (b := 319) rfl rfl rfl rfl ?_
              refine tl_getr (c := 0) (k9 := 6) (b := 325) rfl rfl rfl rfl ?_
              refine tl_v0i (c9 := 3) (k_countP l Or325 h1 _ _ hg hv) rfl rfl rfl rfl rfl (Nat.le_of_ble_eq_true rfl) (fun z2 h2 p2 => ?_)
              obtain ⟨q2, rfl⟩ := p2
              have q2 := q2.symm
              subst q2
              refine tl_iret rfl ?_
              -- leaf 27 at 114
              first
                | (exfalso; omega)
                | (refine ⟨_, rfl, ?_⟩
                   rw [Dcount, Aco]
                   repeat (first | rw [if_pos (by omega)] | rw [if_neg (by omega)])
                   exact PK.rd hI kf)
            · refine tl_tabI (off := 70) (tgt := 115) rfl ⟨by omega, by omega⟩ (by omega) (by omega) (by rw [ct10b]; rfl) rfl ?_
              refine tl_aload_n rfl rfl ?_
              refine tl_v0v (c9 := 11) (k_findAnchors l h (s 390) hI.1 hI.rt hI.te) rfl rfl rfl rfl rfl (Nat.le_of_ble_eq_true rfl) (fun h1 p1 => ?_)
              obtain ⟨g1, g2, g3, g4, fr⟩ := p1
              have kf : KF h h1 := KF.of (fun x hx => fr x (by omega))
              have hR1 := kf.rs hI.1
              have ok := hI.ok
              have k3 := ok.2.2.1
              have hg : OG h1 325 326 327 (ogT (s 390) (s 390 0)) (s 390 70).toNat := ⟨by rw [g3]; omega, fun i hi => g4 i (by omega)⟩
              have hv := ogT_v ok (lst := s 390 0) hI.rt.1.1
              show jT _ _ 119 _ _ _ _
              refine tl_aload_n rfl rfl ?_
              refine tl_v0i (c9 := 11) (k_packA l h1 (s 390) hR1 (s 390 0) hI.rt.1.1 g3 g4) rfl rfl rfl rfl rfl (Nat.le_of_ble_eq_true rfl) (fun z5 h5 p5 => ?_)
              obtain ⟨rfl, k5, f5⟩ := p5
              refine tl_iret rfl ?_
              -- leaf 28 at 123
              first
                | (exfalso; omega)
                | (refine ⟨_, rfl, ?_⟩
                   rw [Dcount, Aco]
                   repeat (first | rw [if_pos (by omega)] | rw [if_neg (by omega)])
                   exact PK.rd hI (kf.trans (KF.of (fun x hx => f5 x (by omega)))))
            · refine tl_tabI (off := 79) (tgt := 124) rfl ⟨by omega, by omega⟩ (by omega) (by omega) (by rw [ct10b]; rfl) rfl ?_
              refine tl_aload_n rfl rfl ?_
              refine tl_getr (c := 11) (k9 := 0) (b := 1) rfl rfl rfl rfl ?_
              refine tl_v0i (c9 := 9) (k_cntB l h (fun i hi => by rw [hI.1.ba hi]; exact (hI.ok.2.2.2.2.2.2) i hi)) rfl rfl rfl rfl rfl (Nat.le_of_ble_eq_true rfl) (fun z3 h3 p3 => ?_)
              obtain ⟨q3, rfl⟩ := p3
              have q3 := q3.symm
              subst q3
              rw [sm_congr 64 (fun i hi => hI.1.ba hi)]
              refine tl_iret rfl ?_
              -- leaf 29 at 131
              first
                | (exfalso; omega)
                | (refine ⟨_, rfl, ?_⟩
                   rw [Dcount, Aco]
                   repeat (first | rw [if_pos (by omega)] | rw [if_neg (by omega)])
                   exact PK.rd hI KF.rfl')
            · refine tl_tabI (off := 87) (tgt := 132) rfl ⟨by omega, by omega⟩ (by omega) (by omega) (by rw [ct10b]; rfl) rfl ?_
              show jT _ _ 132 _ _ _ _
              refine tl_aload_n rfl rfl ?_
              refine tl_getr (c := 11) (k9 := 0) (b := 1) rfl rfl rfl rfl ?_
              refine tl_getr (c := 9) (k9 := 1) (b := 4) rfl rfl rfl rfl ?_
              refine tl_aload_n rfl rfl ?_
              refine tl_getr (c := 11) (k9 := 0) (b := 1) rfl rfl rfl rfl ?_
              refine tl_getr (c := 9) (k9 := 0) (b := 2) rfl rfl rfl rfl ?_
              refine tl_v1i (c9 := 8) (c_Row_alike l (RSf_S 1 (by decide)) (RSf_S 0 (by decide)) h (by show 0 ≤ h 4 1; omega) (by show h 4 1 ≤ _; omega) (by show 0 ≤ h 2 1; omega) (by show h 2 1 ≤ _; omega) b5 b3) rfl rfl rfl rfl rfl (Nat.le_of_ble_eq_true rfl) (fun z4 h4 p4 => ?_)
              obtain ⟨q4, p4⟩ := p4
              have q4 := q4.symm
              subst q4
              have e4 : z4 = alk (fun i => s 390 (71 + i)) (fun i => s 390 (6 + i)) (min (s 390 70) (s 390 5)).toNat := by
                rw [p4]
                show alk (h 5) (h 3) (min (h 4 1) (h 2 1)).toNat = _
                rw [o70, o5]
                refine alk_congr _ (fun i hi => ⟨?_, ?_⟩)
                · have q := ((hI.1.1 1 (by decide)).2.2.2 i (by show (i : Int) < s 390 70; omega)).1; rw [show 5 + 65 * 1 + 1 + i = 71 + i by omega] at q; exact q
                · have q := ((hI.1.1 0 (by decide)).2.2.2 i (by show (i : Int) < s 390 5; omega)).1; rw [show 5 + 65 * 0 + 1 + i = 6 + i by omega] at q; exact q
              show jT _ _ 149 _ _ _ _
              refine tl_iret rfl ?_
              -- leaf 30 at 149
              first
                | (exfalso; omega)
                | (refine ⟨_, rfl, ?_⟩
                   rw [Dcount, Aco]
                   repeat (first | rw [if_pos (by omega)] | rw [if_neg (by omega)])
                   rw [← e4]
                   exact PK.rd hI KF.rfl')
            · refine tl_tabI (off := 105) (tgt := 150) rfl ⟨by omega, by omega⟩ (by omega) (by omega) (by rw [ct10b]; rfl) rfl ?_
              refine tl_aload_n rfl rfl ?_
              refine tl_geti (c := 11) (k9 := 4) rfl rfl rfl ?_
              rw [hI.2.1.1]
              refine tl_iret rfl ?_
              -- leaf 31 at 154
              first
                | (exfalso; omega)
                | (refine ⟨_, rfl, ?_⟩
                   rw [Dcount, Aco]
                   repeat (first | rw [if_pos (by omega)] | rw [if_neg (by omega)])
                   exact PK.rd hI KF.rfl')
            · refine tl_tabI (off := 110) (tgt := 155) rfl ⟨by omega, by omega⟩ (by omega) (by omega) (by rw [ct10b]; rfl) rfl ?_
              refine tl_aload_n rfl rfl ?_
              refine tl_getr (c := 11) (k9 := 5) (b := 309) rfl rfl rfl rfl ?_
              refine tl_geti (c := 8) (k9 := 1) rfl rfl rfl ?_
              rw [hI.2.2.1.1]
              show jT _ _ 162 _ _ _ _
              refine tl_iret rfl ?_
              -- leaf 32 at 162
              first
                | (exfalso; omega)
                | (refine ⟨_, rfl, ?_⟩
                   rw [Dcount, Aco]
                   repeat (first | rw [if_pos (by omega)] | rw [if_neg (by omega)])
                   exact PK.rd hI KF.rfl')
        · show jT _ _ 34 _ _ _ _
          refine tl_aload_n rfl rfl ?_
          refine tl_getr (c := 11) (k9 := 6) (b := 311) rfl rfl rfl rfl ?_
          refine tl_iload_n rfl rfl ?_
          refine tl_bipush rfl rfl ?_
          refine tl_isub rfl ?_
          refine tl_iald (n := 5) rfl rfl rfl (by omega) (by omega) ?_
          rw [hI.te (w - 13).toNat (by omega)]
          show jT _ _ 43 _ _ _ _
          refine tl_iret rfl ?_
          -- leaf 33 at 43
          first
            | (exfalso; omega)
            | (refine ⟨_, rfl, ?_⟩
               rw [Dcount, Aco]
               repeat (first | rw [if_pos (by omega)] | rw [if_neg (by omega)])
               exact PK.rd hI KF.rfl')
    · show jT _ _ 12 _ _ _ _
      refine tl_aload_n rfl rfl ?_
      refine tl_getr (c := 11) (k9 := 7) (b := 312) rfl rfl rfl rfl ?_
      refine tl_iload_n rfl rfl ?_
      refine tl_bipush rfl rfl ?_
      refine tl_isub rfl ?_
      refine tl_iald (n := 6) rfl rfl rfl (by omega) (by omega) ?_
      rw [(hI.2.2.2.2.1 (w - 7).toNat (by omega)).1, show (w - 7).toNat + 1 = (w - 6).toNat by omega]
      show jT _ _ 21 _ _ _ _
      refine tl_iret rfl ?_
      -- leaf 34 at 21
      first
        | (exfalso; omega)
        | (refine ⟨_, rfl, ?_⟩
           rw [Dcount, Aco]
           repeat (first | rw [if_pos (by omega)] | rw [if_neg (by omega)])
           exact PK.rd hI KF.rfl')
set_option maxRecDepth 20000 in
set_option maxHeartbeats 1000000 in
theorem r_count (l : Launch) (g h : jH) (t w : Int) (hI0 : IC g h t) (hw9 : jr w) : cI l 354 [.ref 388, .int (jI w)] h (PRF (Dcount (Tz h) w)) := by
  have w1 := hw9.1
  have w2 := hw9.2
  refine cI.of rfl rfl ?_
  refine tl_aload_n rfl rfl ?_
  refine tl_iconst rfl ?_
  refine tl_puti (c := 12) (k9 := 0) rfl rfl rfl rfl ?_
  have hI := hI0.z
  change jT _ _ _ _ _ (Tz h) _
  generalize Tz h = m at hI ⊢
  have nu := hI.nund
  have ok := hI.ok
  have hT := hI.rt
  have q0 := hT.1
  have k3 := ok.2.2.1
  refine tl_iload_n rfl rfl ?_
  by_cases ct1 : w < 0 ∨ 6 < w
  · refine tl_tabO (tgt := 113) rfl ⟨by omega, by omega⟩ ct1 rfl ?_
    refine tl_iload_n rfl rfl ?_
    show jT _ _ 114 _ _ _ _
    refine tl_i2l rfl ⟨by omega, by omega⟩ ?_
    refine tl_ldc2 (z := 7) rfl (by decide +kernel) ?_
    refine tl_ldc2 (z := 12) rfl (by decide +kernel) ?_
    refine tl_s3i (c_in l _ _ _ _ ⟨by omega, by omega⟩ ⟨by omega, by omega⟩ ⟨by omega, by omega⟩) rfl rfl rfl (Nat.le_of_ble_eq_true rfl) (fun z5 h5 p5 => ?_)
    obtain ⟨q5, p5⟩ := p5
    have q5 := q5.symm
    subst q5
    have b5 : z5 = 0 ∨ z5 = 1 := by rw [p5]; split <;> omega
    refine tl_if_eq (tgt := 139) rfl rfl ⟨by omega, by omega⟩ (fun c2 => ?_) (fun c2 => ?_)
    · skip
      refine tl_iload_n rfl rfl ?_
      refine tl_i2l rfl ⟨by omega, by omega⟩ ?_
      show jT _ _ 141 _ _ _ _
      refine tl_ldc2 (z := 13) rfl (by decide +kernel) ?_
      refine tl_ldc2 (z := 17) rfl (by decide +kernel) ?_
      refine tl_s3i (c_in l _ _ _ _ ⟨by omega, by omega⟩ ⟨by omega, by omega⟩ ⟨by omega, by omega⟩) rfl rfl rfl (Nat.le_of_ble_eq_true rfl) (fun z6 h6 p6 => ?_)
      obtain ⟨q6, p6⟩ := p6
      have q6 := q6.symm
      subst q6
      have b6 : z6 = 0 ∨ z6 = 1 := by rw [p6]; split <;> omega
      refine tl_if_eq (tgt := 165) rfl rfl ⟨by omega, by omega⟩ (fun c3 => ?_) (fun c3 => ?_)
      · skip
        refine tl_iconst rfl ?_
        refine tl_iret rfl ?_
        -- leaf 0 at 166
        first
          | (exfalso; omega)
          | (refine ⟨_, rfl, ?_⟩
             rw [Dcount, Aco]
             repeat (first | rw [if_pos (by omega)] | rw [if_neg (by omega)])
             exact PRF.rd RF.rfl')
      · show jT _ _ 153 _ _ _ _
        refine tl_aload_n rfl rfl ?_
        show jT _ _ 154 _ _ _ _
        refine tl_getr (c := 12) (k9 := 3) (b := 390) rfl rfl rfl rfl ?_
        refine tl_iload_n rfl rfl ?_
        refine tl_bipush rfl rfl ?_
        refine tl_isub rfl ?_
        refine tl_iald (n := 1362) rfl rfl rfl (by omega) (by omega) ?_
        refine tl_goto (tgt := 166) rfl rfl ?_
        refine tl_iret rfl ?_
        -- leaf 1 at 166
        first
          | (exfalso; omega)
          | (refine ⟨_, rfl, ?_⟩
             rw [Dcount, Aco]
             repeat (first | rw [if_pos (by omega)] | rw [if_neg (by omega)])
             exact PRF.rd RF.rfl')
    · show jT _ _ 127 _ _ _ _
      show jT _ _ 127 _ _ _ _
      refine tl_aload_n rfl rfl ?_
      refine tl_getr (c := 12) (k9 := 2) (b := 389) rfl rfl rfl rfl ?_
      refine tl_iload_n rfl rfl ?_
      refine tl_bipush rfl rfl ?_
      refine tl_isub rfl ?_
      refine tl_iald (n := 7) rfl rfl rfl (by omega) (by omega) ?_
      refine tl_goto (tgt := 166) rfl rfl ?_
      show jT _ _ 166 _ _ _ _
      refine tl_iret rfl ?_
      -- leaf 2 at 166
      first
        | (exfalso; omega)
        | (refine ⟨_, rfl, ?_⟩
           rw [Dcount, Aco]
           repeat (first | rw [if_pos (by omega)] | rw [if_neg (by omega)])
           exact PRF.rd RF.rfl')
  · have ct1b : w = 0 ∨ w = 1 ∨ w = 2 ∨ w = 3 ∨ w = 4 ∨ w = 5 ∨ w = 6 := by omega
    rcases ct1b with ct1b | ct1b | ct1b | ct1b | ct1b | ct1b | ct1b
    · refine tl_tabI (off := 42) (tgt := 48) rfl ⟨by omega, by omega⟩ (by omega) (by omega) (by rw [ct1b]; rfl) rfl ?_
      refine tl_aload_n rfl rfl ?_
      refine tl_aload_n rfl rfl ?_
      refine tl_getr (c := 12) (k9 := 3) (b := 390) rfl rfl rfl rfl ?_
      refine tl_iconst rfl ?_
      refine tl_iald (n := 1362) rfl rfl rfl (by omega) (by omega) ?_
      rw [show Int.toNat 0 = 0 from rfl]
      refine tl_v1v (c9 := 12) (r_layAnchors l m (m 390) rfl ok hT (m 390 0) (by omega) (by omega)) rfl rfl rfl rfl rfl (Nat.le_of_ble_eq_true rfl) (fun h1 p1 => ?_)
      obtain ⟨g1, g2, fr, fr2⟩ := p1
      have rf : RF m h1 := RF.of (fun x hx => fr x (by omega)) (fun q hq => fr2 q (by omega))
      show jT _ _ 58 _ _ _ _
      refine tl_aload_n rfl rfl ?_
      refine tl_geti (c := 12) (k9 := 22) rfl rfl rfl ?_
      rw [g1]
      refine tl_iret rfl ?_
      -- leaf 3 at 62
      first
        | (exfalso; omega)
        | (refine ⟨_, rfl, ?_⟩
           rw [Dcount, Aco]
           repeat (first | rw [if_pos (by omega)] | rw [if_neg (by omega)])
           exact PRF.rd rf)
    · refine tl_tabI (off := 57) (tgt := 63) rfl ⟨by omega, by omega⟩ (by omega) (by omega) (by rw [ct1b]; rfl) rfl ?_
      refine tl_aload_n rfl rfl ?_
      refine tl_aload_n rfl rfl ?_
      refine tl_getr (c := 12) (k9 := 3) (b := 390) rfl rfl rfl rfl ?_
      refine tl_iconst rfl ?_
      show jT _ _ 69 _ _ _ _
      refine tl_iald (n := 1362) rfl rfl rfl (by omega) (by omega) ?_
      rw [show Int.toNat 0 = 0 from rfl]
      refine tl_v1v (c9 := 12) (r_layOrigins l m (m 390) rfl ok hT (m 390 0) (by omega) (by omega)) rfl rfl rfl rfl rfl (Nat.le_of_ble_eq_true rfl) (fun h1 p1 => ?_)
      obtain ⟨⟨g1, g2⟩, ⟨g3, g4⟩, fr, fr2⟩ := p1
      have rf : RF m h1 := RF.of (fun x hx => fr x (by omega)) (fun q hq => fr2 q (by omega))
      refine tl_aload_n rfl rfl ?_
      refine tl_v0i (c9 := 12) (r_partsNow l h1 (ogT (m 390) (m 390 0)) (m 390 70).toNat ⟨by rw [g3]; omega, fun i hi => g4 i (by omega)⟩ (ogT_v ok (by omega))) rfl rfl rfl rfl rfl (Nat.le_of_ble_eq_true rfl) (fun z2 h2 p2 => ?_)
      obtain ⟨q2, rfl⟩ := p2
      have q2 := q2.symm
      subst q2
      refine tl_iret rfl ?_
      -- leaf 4 at 77
      first
        | (exfalso; omega)
        | (refine ⟨_, rfl, ?_⟩
           rw [Dcount, Aco]
           repeat (first | rw [if_pos (by omega)] | rw [if_neg (by omega)])
           exact PRF.rd rf)
    · refine tl_tabI (off := 72) (tgt := 78) rfl ⟨by omega, by omega⟩ (by omega) (by omega) (by rw [ct1b]; rfl) rfl ?_
      refine tl_aload_n rfl rfl ?_
      refine tl_aload_n rfl rfl ?_
      show jT _ _ 80 _ _ _ _
      refine tl_getr (c := 12) (k9 := 3) (b := 390) rfl rfl rfl rfl ?_
      refine tl_iconst rfl ?_
      refine tl_iald (n := 1362) rfl rfl rfl (by omega) (by omega) ?_
      rw [show Int.toNat 0 = 0 from rfl]
      refine tl_v1v (c9 := 12) (r_packNow l m (m 390) rfl ok hT (m 390 0) (by omega) (by omega)) rfl rfl rfl rfl rfl (Nat.le_of_ble_eq_true rfl) (fun h1 p1 => ?_)
      obtain ⟨kL, fr, fr2⟩ := p1
      have rf : RF m h1 := RF.of (fun x hx => fr x (by omega)) (fun q hq => fr2 q (by omega))
      refine tl_aload_n rfl rfl ?_
      refine tl_geti (c := 12) (k9 := 27) rfl rfl rfl ?_
      rw [kL.1]
      refine tl_iret rfl ?_
      -- leaf 5 at 92
      first
        | (exfalso; omega)
        | (refine ⟨_, rfl, ?_⟩
           rw [Dcount, Aco]
           repeat (first | rw [if_pos (by omega)] | rw [if_neg (by omega)])
           exact PRF.rd rf)
    · refine tl_tabI (off := 87) (tgt := 93) rfl ⟨by omega, by omega⟩ (by omega) (by omega) (by rw [ct1b]; rfl) rfl ?_
      show jT _ _ 93 _ _ _ _
      refine tl_aload_n rfl rfl ?_
      refine tl_v0i (c9 := 12) (r_cntB l m) rfl rfl rfl rfl rfl (Nat.le_of_ble_eq_true rfl) (fun z3 h3 p3 => ?_)
      obtain ⟨q3, rfl⟩ := p3
      have q3 := q3.symm
      subst q3
      refine tl_iret rfl ?_
      -- leaf 6 at 97
      first
        | (exfalso; omega)
        | (refine ⟨_, rfl, ?_⟩
           rw [Dcount, Aco]
           repeat (first | rw [if_pos (by omega)] | rw [if_neg (by omega)])
           exact PRF.rd RF.rfl')
    · refine tl_tabI (off := 92) (tgt := 98) rfl ⟨by omega, by omega⟩ (by omega) (by omega) (by rw [ct1b]; rfl) rfl ?_
      refine tl_aload_n rfl rfl ?_
      refine tl_v0i (c9 := 12) (r_alike l g m t hI) rfl rfl rfl rfl rfl (Nat.le_of_ble_eq_true rfl) (fun z4 h4 p4 => ?_)
      obtain ⟨q4, rfl⟩ := p4
      have q4 := q4.symm
      subst q4
      refine tl_iret rfl ?_
      -- leaf 7 at 102
      first
        | (exfalso; omega)
        | (refine ⟨_, rfl, ?_⟩
           rw [Dcount, Aco]
           repeat (first | rw [if_pos (by omega)] | rw [if_neg (by omega)])
           exact PRF.rd RF.rfl')
    · refine tl_tabI (off := 97) (tgt := 103) rfl ⟨by omega, by omega⟩ (by omega) (by omega) (by rw [ct1b]; rfl) rfl ?_
      refine tl_aload_n rfl rfl ?_
      show jT _ _ 104 _ _ _ _
      refine tl_geti (c := 12) (k9 := 6) rfl rfl rfl ?_
      refine tl_iret rfl ?_
      -- leaf 8 at 107
      first
        | (exfalso; omega)
        | (refine ⟨_, rfl, ?_⟩
           rw [Dcount, Aco]
           repeat (first | rw [if_pos (by omega)] | rw [if_neg (by omega)])
           exact PRF.rd RF.rfl')
    · refine tl_tabI (off := 102) (tgt := 108) rfl ⟨by omega, by omega⟩ (by omega) (by omega) (by rw [ct1b]; rfl) rfl ?_
      refine tl_aload_n rfl rfl ?_
      refine tl_geti (c := 12) (k9 := 8) rfl rfl rfl ?_
      refine tl_iret rfl ?_
      -- leaf 9 at 112
      first
        | (exfalso; omega)
        | (refine ⟨_, rfl, ?_⟩
           rw [Dcount, Aco]
           repeat (first | rw [if_pos (by omega)] | rw [if_neg (by omega)])
           exact PRF.rd RF.rfl')
