/-! a patch read: its rows, of the reference, all three ways -/
theorem rnR_b {B : Nat → Int} {N p : Nat} {f : Int} (hB : BB B N) (hp : p ≤ N) (f0 : 0 ≤ f ∧ f ≤ 7) : 0 ≤ (rnR B N p f).1 ∧ (rnR B N p f).1 ≤ 40000 := by
  obtain ⟨a1, a2, a3⟩ := rbR_b hB hp f0
  obtain ⟨b1, b2, b3⟩ := rbR_b hB a2.2 a3
  rw [rnR]
  split
  · omega
  · show 0 ≤ (rbR B N p f).1 - 128 + 128 * _ ∧ (rbR B N p f).1 - 128 + 128 * _ ≤ 40000
    omega
theorem rapp {V : List Int} {n : Nat} {x : Int} : (V ++ List.replicate n x).length = V.length + n := by rw [List.length_append, List.length_replicate]
set_option maxRecDepth 20000 in
set_option maxHeartbeats 1000000 in
theorem r_zr_lp (l : Launch) (h : jH) (B : Nat → Int) (N many wh : Nat) (hB : BB B N) (m64 : many ≤ 64) (E : Int × Nat × List Int) (P : Option Value → jH → Prop) (hP : ∀ mem, ((∃ p2, RDR mem B N p2 E.1 ∧ (E.1 = 0 → p2 = E.2.1)) ∧ (E.1 = 0 → BL mem E.2.2) ∧ FY9 h mem) → P none mem) : ∀ (m : Nat) (p : Nat) (V : List Int) (fu : Nat) (mem : jH) (y4 : Option Value) (y5 : Option Value), many - V.length < m → (V.length ≤ many ∧ many - V.length ≤ fu ∧ RDR mem B N p 0 ∧ BL mem V ∧ zrR B N many fu p V = E ∧ FY9 h mem) → jT l 282 41 [some (.ref 388), some (.int (jI ((many : Int)))), some (.int (jI ((wh : Int)))), some (.int (jI (1))), y4, y5] [] mem P := by
  intro m
  induction m with
  | zero => intro p V fu mem y4 y5 hk; omega
  | succ m ih =>
    intro p V fu mem y4 y5 hk hi
    obtain ⟨i0, ifu, i2, i3, hE, fr⟩ := hi
    have i2p := i2.2.2.2.2.2.2.1
    have pb := rn_b hB i2p
    have zb1 := rnR_b hB i2p ⟨Int.le_refl 0, by decide⟩
    have i31 := i3.1
    refine tl_aload_n rfl rfl ?_
    refine tl_geti (c := 12) (k9 := 29) rfl rfl rfl ?_
    rw [i31]
    refine tl_iload_n rfl rfl ?_
    refine tl_icmp_ge (tgt := 184) rfl rfl ⟨by omega, by omega⟩ ⟨by omega, by omega⟩ (fun c1 => ?_) (fun c1 => ?_)
    · skip
      refine tl_ret rfl ?_
      -- leaf 0 at 184
      have e : many ≤ V.length := by omega
      rw [zrR_e e] at hE
      subst hE
      exact hP _ ⟨⟨p, i2, fun _ => rfl⟩, fun _ => i3, fr⟩
    · show jT _ _ 49 _ _ _ _
      refine tl_aload_n rfl rfl ?_
      show jT _ _ 50 _ _ _ _
      refine tl_geti (c := 12) (k9 := 33) rfl rfl rfl ?_
      rw [i2.2.2.1]
      refine tl_if_ne (tgt := 184) rfl rfl ⟨by omega, by omega⟩ (fun c2 => ?_) (fun c2 => ?_)
      · skip
        exfalso; omega
      · show jT _ _ 56 _ _ _ _
        refine tl_aload_n rfl rfl ?_
        refine tl_v0i (c9 := 12) (r_nextNum l mem B N p 0 i2) rfl rfl rfl rfl rfl (Nat.le_of_ble_eq_true rfl) (fun z1 h1 p1 => ?_)
        show jT _ _ 60 _ _ _ _
        -- leaf 1 at 60
        obtain ⟨e1, k1, f1⟩ := p1
        by_cases x1 : (rn B N p).1 < 0
        · rw [(rnR_e hB i2p).2 x1] at k1
          rw [show fu = fu - 1 + 1 by omega, zrR, if_neg (by omega), if_pos x1] at hE
          subst hE
          exact r_rr60 l h1 B N _ 3 k1 (by decide) (many : Int) (wh : Int) 1 (V.length : Int) (by omega) (by omega) (by rw [f1.2 29 (by decide) (by decide)]; exact i31) (by omega) z1 (by rw [e1]; exact zb1) _ _ P (fun m2 a b => hP _ ⟨⟨_, a, fun w => absurd w (by show ¬ (3 : Int) = 0; decide)⟩, fun w => absurd w (by show ¬ (3 : Int) = 0; decide), (fr.trans f1.y9).trans b.y9⟩)
        rw [(rnR_e hB i2p).1 (by omega)] at e1 k1
        have e1 : z1 = (rn B N p).1 := e1
        subst e1
        change RDR h1 B N (rn B N p).2 0 at k1
        have pb2 := rn_b hB pb.2.2.1
        have zb2 := rnR_b hB pb.2.2.1 ⟨Int.le_refl 0, by decide⟩
        refine tl_istore rfl (Nat.le_of_ble_eq_true rfl) rfl ?_
        refine tl_aload_n rfl rfl ?_
        refine tl_iload rfl rfl ?_
        refine tl_iload_n rfl rfl ?_
        refine tl_aload_n rfl rfl ?_
        refine tl_geti (c := 12) (k9 := 29) rfl rfl rfl ?_
        rw [f1.2 29 (by decide) (by decide), i31]
        show jT _ _ 70 _ _ _ _
        refine tl_isub rfl ?_
        refine tl_icmp_gt (tgt := 84) rfl rfl ⟨by omega, by omega⟩ ⟨by omega, by omega⟩ (fun c1 => ?_) (fun c1 => ?_)
        · skip
          refine tl_iconst rfl ?_
          refine tl_goto (tgt := 89) rfl rfl ?_
          refine tl_iconst rfl ?_
          refine tl_v2v (c9 := 12) (r_fails l h1 B N (rn B N p).2 0 k1 _ 5 (by omega) (by omega) (by omega)) rfl rfl rfl rfl rfl (Nat.le_of_ble_eq_true rfl) (fun h2 p2 => ?_)
          obtain ⟨k2, f2⟩ := p2
          show jT _ _ 93 _ _ _ _
          -- leaf 0 at 93
          rw [if_pos (by omega)] at k2
          rw [show fu = fu - 1 + 1 by omega, zrR, if_neg (by omega), if_neg x1, if_pos (by omega)] at hE
          subst hE
          exact r_rr93 l h2 B N _ 5 k2 (by decide) (many : Int) (wh : Int) 1 (V.length : Int) (by omega) (by omega) (by rw [f2.2 29 (by decide) (by decide), f1.2 29 (by decide) (by decide)]; exact i31) (by omega) _ _ P (fun m2 a b => hP _ ⟨⟨_, a, fun w => absurd w (by show ¬ (5 : Int) = 0; decide)⟩, fun w => absurd w (by show ¬ (5 : Int) = 0; decide), ((fr.trans f1.y9).trans f2.y9).trans b.y9⟩)
        · show jT _ _ 74 _ _ _ _
          refine tl_iload_n rfl rfl ?_
          show jT _ _ 75 _ _ _ _
          refine tl_iconst rfl ?_
          refine tl_icmp_ne (tgt := 88) rfl rfl ⟨by omega, by omega⟩ ⟨by omega, by omega⟩ (fun c2 => ?_) (fun c2 => ?_)
          · skip
            refine tl_iconst rfl ?_
            refine tl_iconst rfl ?_
            refine tl_v2v (c9 := 12) (r_fails l h1 B N (rn B N p).2 0 k1 _ 5 (by omega) (by omega) (by omega)) rfl rfl rfl rfl rfl (Nat.le_of_ble_eq_true rfl) (fun h2 p2 => ?_)
            obtain ⟨k2, f2⟩ := p2
            show jT _ _ 93 _ _ _ _
            -- leaf 1 at 93
            rw [if_neg (by omega)] at k2
            refine tl_iload_n rfl rfl ?_
            refine tl_iconst rfl ?_
            refine tl_icmp_ne (tgt := 105) rfl rfl ⟨by omega, by omega⟩ ⟨by omega, by omega⟩ (fun c1 => ?_) (fun c1 => ?_)
            · skip
              refine tl_iconst rfl ?_
              refine tl_istore rfl (Nat.le_of_ble_eq_true rfl) rfl ?_
              refine tl_aload_n rfl rfl ?_
              show jT _ _ 109 _ _ _ _
              refine tl_geti (c := 12) (k9 := 33) rfl rfl rfl ?_
              rw [k2.2.2.1]
              refine tl_if_ne (tgt := 123) rfl rfl ⟨by omega, by omega⟩ (fun c2 => ?_) (fun c2 => ?_)
              · skip
                exfalso; omega
              · show jT _ _ 115 _ _ _ _
                refine tl_aload_n rfl rfl ?_
                refine tl_iload rfl rfl ?_
                refine tl_iload rfl rfl ?_
                refine tl_v2v (c9 := 12) (r_repeat l h2 V (rn B N p).1 0 (by omega) (by omega) ((i3.fr f1).fr f2)) rfl rfl rfl rfl rfl (Nat.le_of_ble_eq_true rfl) (fun h3 p3 => ?_)
                obtain ⟨k3, f3⟩ := p3
                have le3 : (V ++ List.replicate (rn B N p).1.toNat 0).length = V.length + (rn B N p).1.toNat := rapp
                have g3 := k3.1
                rw [le3, show ((V.length + (rn B N p).1.toNat : Nat) : Int) = (V.length + (rn B N p).1.toNat : Int) by omega] at g3
                refine tl_iload_n rfl rfl ?_
                show jT _ _ 124 _ _ _ _
                refine tl_iconst rfl ?_
                refine tl_icmp_ne (tgt := 181) rfl rfl ⟨by omega, by omega⟩ ⟨by omega, by omega⟩ (fun c3 => ?_) (fun c3 => ?_)
                · skip
                  exfalso; omega
                · show jT _ _ 128 _ _ _ _
                  refine tl_aload_n rfl rfl ?_
                  refine tl_geti (c := 12) (k9 := 29) rfl rfl rfl ?_
                  rw [g3]
                  refine tl_iload_n rfl rfl ?_
                  refine tl_icmp_ge (tgt := 181) rfl rfl ⟨by omega, by omega⟩ ⟨by omega, by omega⟩ (fun c4 => ?_) (fun c4 => ?_)
                  · skip
                    refine tl_goto (tgt := 41) rfl rfl ?_
                    show jT _ _ 41 _ _ _ _
                    -- leaf 0 at 41
                    rw [show fu = fu - 1 + 1 by omega, zrR, if_neg (by omega), if_neg x1, if_neg (by omega), if_neg (by omega)] at hE
                    exact jT.loc rfl (ih (rn B N p).2 (V ++ List.replicate (rn B N p).1.toNat 0) (fu - 1) h3 _ _ (by omega) ⟨by omega, by omega, k2.fb f3, k3, hE, ((fr.trans f1.y9).trans f2.y9).trans f3.y9⟩)
                  · show jT _ _ 136 _ _ _ _
                    show jT _ _ 136 _ _ _ _
                    refine tl_aload_n rfl rfl ?_
                    refine tl_geti (c := 12) (k9 := 33) rfl rfl rfl ?_
                    rw [(k2.fb f3).2.2.1]
                    refine tl_if_ne (tgt := 181) rfl rfl ⟨by omega, by omega⟩ (fun c5 => ?_) (fun c5 => ?_)
                    · skip
                      refine tl_goto (tgt := 41) rfl rfl ?_
                      show jT _ _ 41 _ _ _ _
                      -- leaf 1 at 41
                      rw [show fu = fu - 1 + 1 by omega, zrR, if_neg (by omega), if_neg x1, if_neg (by omega), if_neg (by omega)] at hE
                      exact jT.loc rfl (ih (rn B N p).2 (V ++ List.replicate (rn B N p).1.toNat 0) (fu - 1) h3 _ _ (by omega) ⟨by omega, by omega, k2.fb f3, k3, hE, ((fr.trans f1.y9).trans f2.y9).trans f3.y9⟩)
                    · show jT _ _ 143 _ _ _ _
                      refine tl_aload_n rfl rfl ?_
                      refine tl_v0i (c9 := 12) (r_nextNum l h3 B N (rn B N p).2 0 (k2.fb f3)) rfl rfl rfl rfl rfl (Nat.le_of_ble_eq_true rfl) (fun z4 h4 p4 => ?_)
                      show jT _ _ 147 _ _ _ _
                      -- leaf 2 at 147
                      obtain ⟨e4, k4, f4⟩ := p4
                      by_cases x4 : (rn B N (rn B N p).2).1 < 0
                      · rw [(rnR_e hB pb.2.2.1).2 x4] at k4
                        rw [show fu = fu - 1 + 1 by omega, zrR, if_neg (by omega), if_neg x1, if_neg (by omega), if_pos (by omega), if_neg (by omega), if_pos x4] at hE
                        subst hE
                        exact r_rr147 l h4 B N _ 3 k4 (by decide) (many : Int) (wh : Int) 1 (V.length + (rn B N p).1.toNat : Int) (by omega) (by omega) (by rw [f4.2 29 (by decide) (by decide)]; exact g3) (by omega) z4 (by rw [e4]; exact zb2) _ _ P (fun m2 a b => hP _ ⟨⟨_, a, fun w => absurd w (by show ¬ (3 : Int) = 0; decide)⟩, fun w => absurd w (by show ¬ (3 : Int) = 0; decide), ((((fr.trans f1.y9).trans f2.y9).trans f3.y9).trans f4.y9).trans b.y9⟩)
                      rw [(rnR_e hB pb.2.2.1).1 (by omega)] at e4 k4
                      have e4 : z4 = (rn B N (rn B N p).2).1 := e4
                      subst e4
                      change RDR h4 B N (rn B N (rn B N p).2).2 0 at k4
                      refine tl_istore rfl (Nat.le_of_ble_eq_true rfl) rfl ?_
                      refine tl_aload_n rfl rfl ?_
                      refine tl_iload rfl rfl ?_
                      refine tl_iload_n rfl rfl ?_
                      refine tl_aload_n rfl rfl ?_
                      refine tl_geti (c := 12) (k9 := 29) rfl rfl rfl ?_
                      rw [f4.2 29 (by decide) (by decide), g3]
                      show jT _ _ 157 _ _ _ _
                      refine tl_isub rfl ?_
                      refine tl_icmp_gt (tgt := 166) rfl rfl ⟨by omega, by omega⟩ ⟨by omega, by omega⟩ (fun c1 => ?_) (fun c1 => ?_)
                      · skip
                        refine tl_iconst rfl ?_
                        refine tl_goto (tgt := 171) rfl rfl ?_
                        refine tl_iconst rfl ?_
                        refine tl_v2v (c9 := 12) (r_fails l h4 B N (rn B N (rn B N p).2).2 0 k4 _ 5 (by omega) (by omega) (by omega)) rfl rfl rfl rfl rfl (Nat.le_of_ble_eq_true rfl) (fun h6 p6 => ?_)
                        obtain ⟨k6, f6⟩ := p6
                        show jT _ _ 175 _ _ _ _
                        -- leaf 0 at 175
                        rw [if_pos (by omega)] at k6
                        rw [show fu = fu - 1 + 1 by omega, zrR, if_neg (by omega), if_neg x1, if_neg (by omega), if_pos (by omega), if_pos (by omega)] at hE
                        subst hE
                        exact r_rr175 l h6 B N _ 5 k6 (by decide) (many : Int) (wh : Int) 1 (V.length + (rn B N p).1.toNat : Int) (by omega) (by omega) (by rw [f6.2 29 (by decide) (by decide), f4.2 29 (by decide) (by decide)]; exact g3) (by omega) _ (by omega) _ P (fun m2 a b => hP _ ⟨⟨_, a, fun w => absurd w (by show ¬ (5 : Int) = 0; decide)⟩, fun w => absurd w (by show ¬ (5 : Int) = 0; decide), ((((((fr.trans f1.y9).trans f2.y9).trans f3.y9).trans f4.y9).trans f6.y9)).trans b.y9⟩)
                      · show jT _ _ 161 _ _ _ _
                        refine tl_iload rfl rfl ?_
                        show jT _ _ 163 _ _ _ _
                        refine tl_if_ne (tgt := 170) rfl rfl ⟨by omega, by omega⟩ (fun c2 => ?_) (fun c2 => ?_)
                        · skip
                          refine tl_iconst rfl ?_
                          refine tl_iconst rfl ?_
                          refine tl_v2v (c9 := 12) (r_fails l h4 B N (rn B N (rn B N p).2).2 0 k4 _ 5 (by omega) (by omega) (by omega)) rfl rfl rfl rfl rfl (Nat.le_of_ble_eq_true rfl) (fun h6 p6 => ?_)
                          obtain ⟨k6, f6⟩ := p6
                          show jT _ _ 175 _ _ _ _
                          -- leaf 1 at 175
                          rw [if_neg (by omega)] at k6
                          refine tl_aload_n rfl rfl ?_
                          refine tl_iload rfl rfl ?_
                          refine tl_v1v (c9 := 12) (r_readBytes l h6 B N (rn B N (rn B N p).2).2 hB (V ++ List.replicate (rn B N p).1.toNat 0) (rn B N (rn B N p).2).1 (by omega) (by rw [le3]; omega) ((k3.fr f4).fr f6) k6) rfl rfl rfl rfl rfl (Nat.le_of_ble_eq_true rfl) (fun h7 p7 => ?_)
                          refine tl_goto (tgt := 41) rfl rfl ?_
                          show jT _ _ 41 _ _ _ _
                          -- leaf 0 at 41
                          obtain ⟨⟨p7, k7, e7⟩, g7, n7, f7⟩ := p7
                          by_cases x7 : (plF B N (rn B N (rn B N p).2).1.toNat (rn B N (rn B N p).2).2 (V ++ List.replicate (rn B N p).1.toNat 0)).1 = 0
                          · rw [show fu = fu - 1 + 1 by omega, zrR, if_neg (by omega), if_neg x1, if_neg (by omega), if_pos (by omega), if_neg (by omega), if_neg x4, if_pos x7] at hE
                            have e7 := e7 x7
                            rw [x7, e7] at k7
                            have lp : (plF B N (rn B N (rn B N p).2).1.toNat (rn B N (rn B N p).2).2 (V ++ List.replicate (rn B N p).1.toNat 0)).2.2.length = (V ++ List.replicate (rn B N p).1.toNat 0).length + (rn B N (rn B N p).2).1.toNat := (plF_b hB _ _ _ pb2.2.2.1).2.2.1 x7
                            rw [le3] at lp
                            refine jT.loc rfl (ih (plF B N (rn B N (rn B N p).2).1.toNat (rn B N (rn B N p).2).2 (V ++ List.replicate (rn B N p).1.toNat 0)).2.1 (plF B N (rn B N (rn B N p).2).1.toNat (rn B N (rn B N p).2).2 (V ++ List.replicate (rn B N p).1.toNat 0)).2.2 (fu - 1) h7 _ _ (by omega) ⟨by omega, by omega, k7, g7 x7, hE, (((((fr.trans f1.y9).trans f2.y9).trans f3.y9).trans f4.y9).trans f6.y9).trans f7⟩)
                          have p3 : (plF B N (rn B N (rn B N p).2).1.toNat (rn B N (rn B N p).2).2 (V ++ List.replicate (rn B N p).1.toNat 0)).1 = 3 := ((plF_b hB _ _ _ pb2.2.2.1).1).resolve_left x7
                          rw [p3] at k7
                          rw [show fu = fu - 1 + 1 by omega, zrR, if_neg (by omega), if_neg x1, if_neg (by omega), if_pos (by omega), if_neg (by omega), if_neg x4, if_neg x7] at hE
                          subst hE
                          exact r_rr41 l h7 B N _ 3 k7 (by decide) (many : Int) (wh : Int) 1 _ (by omega) (by omega) rfl n7 _ _ P (fun m2 a b => hP _ ⟨⟨_, a, fun w => absurd w (by show ¬ (3 : Int) = 0; decide)⟩, fun w => absurd w (by show ¬ (3 : Int) = 0; decide), ((((((fr.trans f1.y9).trans f2.y9).trans f3.y9).trans f4.y9).trans f6.y9).trans f7).trans b.y9⟩)
                        · show jT _ _ 166 _ _ _ _
                          refine tl_iconst rfl ?_
                          refine tl_goto (tgt := 171) rfl rfl ?_
                          refine tl_iconst rfl ?_
                          show jT _ _ 172 _ _ _ _
                          refine tl_v2v (c9 := 12) (r_fails l h4 B N (rn B N (rn B N p).2).2 0 k4 _ 5 (by omega) (by omega) (by omega)) rfl rfl rfl rfl rfl (Nat.le_of_ble_eq_true rfl) (fun h6 p6 => ?_)
                          obtain ⟨k6, f6⟩ := p6
                          show jT _ _ 175 _ _ _ _
                          -- leaf 2 at 175
                          rw [if_pos (by omega)] at k6
                          rw [show fu = fu - 1 + 1 by omega, zrR, if_neg (by omega), if_neg x1, if_neg (by omega), if_pos (by omega), if_pos (by omega)] at hE
                          subst hE
                          exact r_rr175 l h6 B N _ 5 k6 (by decide) (many : Int) (wh : Int) 1 (V.length + (rn B N p).1.toNat : Int) (by omega) (by omega) (by rw [f6.2 29 (by decide) (by decide), f4.2 29 (by decide) (by decide)]; exact g3) (by omega) _ (by omega) _ P (fun m2 a b => hP _ ⟨⟨_, a, fun w => absurd w (by show ¬ (5 : Int) = 0; decide)⟩, fun w => absurd w (by show ¬ (5 : Int) = 0; decide), ((((((fr.trans f1.y9).trans f2.y9).trans f3.y9).trans f4.y9).trans f6.y9)).trans b.y9⟩)
            · show jT _ _ 98 _ _ _ _
              exfalso; omega
          · show jT _ _ 79 _ _ _ _
            exfalso; omega
set_option maxRecDepth 20000 in
set_option maxHeartbeats 1000000 in
theorem r_rq_lp (l : Launch) (h : jH) (B : Nat → Int) (N many wh : Nat) (hB : BB B N) (m64 : many ≤ 64) (E : Int × Nat × List Int) (P : Option Value → jH → Prop) (hP : ∀ mem, ((∃ p2, RDR mem B N p2 E.1 ∧ (E.1 = 0 → p2 = E.2.1)) ∧ (E.1 = 0 → BL mem E.2.2) ∧ FY9 h mem) → P none mem) : ∀ (m : Nat) (p : Nat) (V : List Int) (fu : Nat) (mem : jH) (y4 : Option Value) (y5 : Option Value), many - V.length < m → (V.length ≤ many ∧ many - V.length ≤ fu ∧ RDR mem B N p 0 ∧ BL mem V ∧ rnQ B N many fu p V = E ∧ FY9 h mem) → jT l 282 41 [some (.ref 388), some (.int (jI ((many : Int)))), some (.int (jI ((wh : Int)))), some (.int (jI (2))), y4, y5] [] mem P := by
  intro m
  induction m with
  | zero => intro p V fu mem y4 y5 hk; omega
  | succ m ih =>
    intro p V fu mem y4 y5 hk hi
    obtain ⟨i0, ifu, i2, i3, hE, fr⟩ := hi
    have i2p := i2.2.2.2.2.2.2.1
    have pb := rn_b hB i2p
    have zb1 := rnR_b hB i2p ⟨Int.le_refl 0, by decide⟩
    have i31 := i3.1
    refine tl_aload_n rfl rfl ?_
    refine tl_geti (c := 12) (k9 := 29) rfl rfl rfl ?_
    rw [i31]
    refine tl_iload_n rfl rfl ?_
    refine tl_icmp_ge (tgt := 184) rfl rfl ⟨by omega, by omega⟩ ⟨by omega, by omega⟩ (fun c1 => ?_) (fun c1 => ?_)
    · skip
      refine tl_ret rfl ?_
      -- leaf 0 at 184
      have e : many ≤ V.length := by omega
      rw [rnQ_e e] at hE
      subst hE
      exact hP _ ⟨⟨p, i2, fun _ => rfl⟩, fun _ => i3, fr⟩
    · show jT _ _ 49 _ _ _ _
      refine tl_aload_n rfl rfl ?_
      show jT _ _ 50 _ _ _ _
      refine tl_geti (c := 12) (k9 := 33) rfl rfl rfl ?_
      rw [i2.2.2.1]
      refine tl_if_ne (tgt := 184) rfl rfl ⟨by omega, by omega⟩ (fun c2 => ?_) (fun c2 => ?_)
      · skip
        exfalso; omega
      · show jT _ _ 56 _ _ _ _
        refine tl_aload_n rfl rfl ?_
        refine tl_v0i (c9 := 12) (r_nextNum l mem B N p 0 i2) rfl rfl rfl rfl rfl (Nat.le_of_ble_eq_true rfl) (fun z1 h1 p1 => ?_)
        show jT _ _ 60 _ _ _ _
        -- leaf 1 at 60
        obtain ⟨e1, k1, f1⟩ := p1
        by_cases x1 : (rn B N p).1 < 0
        · rw [(rnR_e hB i2p).2 x1] at k1
          rw [show fu = fu - 1 + 1 by omega, rnQ, if_neg (by omega), if_pos x1] at hE
          subst hE
          exact r_rr60 l h1 B N _ 3 k1 (by decide) (many : Int) (wh : Int) 2 (V.length : Int) (by omega) (by omega) (by rw [f1.2 29 (by decide) (by decide)]; exact i31) (by omega) z1 (by rw [e1]; exact zb1) _ _ P (fun m2 a b => hP _ ⟨⟨_, a, fun w => absurd w (by show ¬ (3 : Int) = 0; decide)⟩, fun w => absurd w (by show ¬ (3 : Int) = 0; decide), (fr.trans f1.y9).trans b.y9⟩)
        rw [(rnR_e hB i2p).1 (by omega)] at e1 k1
        have e1 : z1 = (rn B N p).1 := e1
        subst e1
        change RDR h1 B N (rn B N p).2 0 at k1
        refine tl_istore rfl (Nat.le_of_ble_eq_true rfl) rfl ?_
        refine tl_aload_n rfl rfl ?_
        refine tl_iload rfl rfl ?_
        refine tl_iload_n rfl rfl ?_
        refine tl_aload_n rfl rfl ?_
        refine tl_geti (c := 12) (k9 := 29) rfl rfl rfl ?_
        rw [f1.2 29 (by decide) (by decide), i31]
        show jT _ _ 70 _ _ _ _
        refine tl_isub rfl ?_
        refine tl_icmp_gt (tgt := 84) rfl rfl ⟨by omega, by omega⟩ ⟨by omega, by omega⟩ (fun c1 => ?_) (fun c1 => ?_)
        · skip
          refine tl_iconst rfl ?_
          refine tl_goto (tgt := 89) rfl rfl ?_
          refine tl_iconst rfl ?_
          refine tl_v2v (c9 := 12) (r_fails l h1 B N (rn B N p).2 0 k1 _ 5 (by omega) (by omega) (by omega)) rfl rfl rfl rfl rfl (Nat.le_of_ble_eq_true rfl) (fun h2 p2 => ?_)
          obtain ⟨k2, f2⟩ := p2
          show jT _ _ 93 _ _ _ _
          -- leaf 0 at 93
          rw [if_pos (by omega)] at k2
          rw [show fu = fu - 1 + 1 by omega, rnQ, if_neg (by omega), if_neg x1, if_pos (by omega)] at hE
          subst hE
          exact r_rr93 l h2 B N _ 5 k2 (by decide) (many : Int) (wh : Int) 2 (V.length : Int) (by omega) (by omega) (by rw [f2.2 29 (by decide) (by decide), f1.2 29 (by decide) (by decide)]; exact i31) (by omega) _ _ P (fun m2 a b => hP _ ⟨⟨_, a, fun w => absurd w (by show ¬ (5 : Int) = 0; decide)⟩, fun w => absurd w (by show ¬ (5 : Int) = 0; decide), ((fr.trans f1.y9).trans f2.y9).trans b.y9⟩)
        · show jT _ _ 74 _ _ _ _
          refine tl_iload_n rfl rfl ?_
          show jT _ _ 75 _ _ _ _
          refine tl_iconst rfl ?_
          refine tl_icmp_ne (tgt := 88) rfl rfl ⟨by omega, by omega⟩ ⟨by omega, by omega⟩ (fun c2 => ?_) (fun c2 => ?_)
          · skip
            exfalso; omega
          · show jT _ _ 79 _ _ _ _
            refine tl_iload rfl rfl ?_
            refine tl_if_ne (tgt := 88) rfl rfl ⟨by omega, by omega⟩ (fun c3 => ?_) (fun c3 => ?_)
            · skip
              refine tl_iconst rfl ?_
              refine tl_iconst rfl ?_
              refine tl_v2v (c9 := 12) (r_fails l h1 B N (rn B N p).2 0 k1 _ 5 (by omega) (by omega) (by omega)) rfl rfl rfl rfl rfl (Nat.le_of_ble_eq_true rfl) (fun h2 p2 => ?_)
              obtain ⟨k2, f2⟩ := p2
              show jT _ _ 93 _ _ _ _
              -- leaf 1 at 93
              rw [if_neg (by omega)] at k2
              refine tl_iload_n rfl rfl ?_
              refine tl_iconst rfl ?_
              refine tl_icmp_ne (tgt := 105) rfl rfl ⟨by omega, by omega⟩ ⟨by omega, by omega⟩ (fun c1 => ?_) (fun c1 => ?_)
              · skip
                exfalso; omega
              · show jT _ _ 98 _ _ _ _
                refine tl_aload_n rfl rfl ?_
                refine tl_v0i (c9 := 12) (r_nextByte l h2 B N (rn B N p).2 0 k2) rfl rfl rfl rfl rfl (Nat.le_of_ble_eq_true rfl) (fun z3 h3 p3 => ?_)
                show jT _ _ 102 _ _ _ _
                -- leaf 0 at 102
                obtain ⟨e3, k3, f3⟩ := p3
                by_cases x3 : (rn B N p).2 < N
                rotate_left
                · skip
                  have rb3 : (rb B N (rn B N p).2) = (-1, (rn B N p).2) := rb_f x3
                  rw [rbR_f x3] at k3
                  change RDR h3 B N _ 3 at k3
                  have hb3 : (rb B N (rn B N p).2).1 < 0 := by rw [rb3]; show (-1 : Int) < 0; decide
                  rw [show fu = fu - 1 + 1 by omega, rnQ, if_neg (by omega), if_neg x1, if_neg (by omega), if_pos hb3] at hE
                  subst hE
                  refine tl_goto (tgt := 106) rfl rfl ?_
                  refine tl_istore rfl (Nat.le_of_ble_eq_true rfl) rfl ?_
                  refine tl_aload_n rfl rfl ?_
                  refine tl_geti (c := 12) (k9 := 33) rfl rfl rfl ?_
                  rw [k3.2.2.1]
                  refine tl_if_ne (tgt := 123) rfl rfl ⟨by omega, by omega⟩ (fun c1 => ?_) (fun c1 => ?_)
                  · skip
                    show jT _ _ 123 _ _ _ _
                    -- leaf 0 at 123
                    exact r_rr123 l h3 B N _ 3 k3 (by decide) (many : Int) (wh : Int) 2 (V.length : Int) (by omega) (by omega) (by rw [f3.2 29 (by decide) (by decide), f2.2 29 (by decide) (by decide), f1.2 29 (by decide) (by decide)]; exact i31) (by omega) _ _ P (fun m2 a b => hP _ ⟨⟨_, a, fun w => absurd w (by show ¬ (3 : Int) = 0; decide)⟩, fun w => absurd w (by show ¬ (3 : Int) = 0; decide), (((fr.trans f1.y9).trans f2.y9).trans f3.y9).trans b.y9⟩)
                  · show jT _ _ 115 _ _ _ _
                    exfalso; omega
                have rb3 : (rb B N (rn B N p).2) = (B (rn B N p).2, (rn B N p).2 + 1) := rb_t x3
                rw [rbR_t x3] at e3 k3
                have e3 : z3 = (rb B N (rn B N p).2).1 := by rw [rb3]; exact e3
                have k3 : RDR h3 B N (rb B N (rn B N p).2).2 0 := by rw [rb3]; exact k3
                subst e3
                have hb3 : 0 ≤ (rb B N (rn B N p).2).1 := by rw [rb3]; exact (hB _ x3).1
                refine tl_goto (tgt := 106) rfl rfl ?_
                refine tl_istore rfl (Nat.le_of_ble_eq_true rfl) rfl ?_
                refine tl_aload_n rfl rfl ?_
                refine tl_geti (c := 12) (k9 := 33) rfl rfl rfl ?_
                rw [k3.2.2.1]
                refine tl_if_ne (tgt := 123) rfl rfl ⟨by omega, by omega⟩ (fun c1 => ?_) (fun c1 => ?_)
                · skip
                  exfalso; omega
                · show jT _ _ 115 _ _ _ _
                  refine tl_aload_n rfl rfl ?_
                  show jT _ _ 116 _ _ _ _
                  refine tl_iload rfl rfl ?_
                  refine tl_iload rfl rfl ?_
                  refine tl_v2v (c9 := 12) (r_repeat l h3 V (rn B N p).1 (rb B N (rn B N p).2).1 (by omega) (by omega) (((i3.fr f1).fr f2).fr f3)) rfl rfl rfl rfl rfl (Nat.le_of_ble_eq_true rfl) (fun h4 p4 => ?_)
                  obtain ⟨k4, f4⟩ := p4
                  have le3 : (V ++ List.replicate (rn B N p).1.toNat (rb B N (rn B N p).2).1).length = V.length + (rn B N p).1.toNat := rapp
                  refine tl_iload_n rfl rfl ?_
                  refine tl_iconst rfl ?_
                  refine tl_icmp_ne (tgt := 181) rfl rfl ⟨by omega, by omega⟩ ⟨by omega, by omega⟩ (fun c2 => ?_) (fun c2 => ?_)
                  · skip
                    refine tl_goto (tgt := 41) rfl rfl ?_
                    show jT _ _ 41 _ _ _ _
                    -- leaf 0 at 41
                    rw [show fu = fu - 1 + 1 by omega, rnQ, if_neg (by omega), if_neg x1, if_neg (by omega), if_neg (by omega)] at hE
                    exact jT.loc rfl (ih (rb B N (rn B N p).2).2 (V ++ List.replicate (rn B N p).1.toNat (rb B N (rn B N p).2).1) (fu - 1) h4 _ _ (by omega) ⟨by omega, by omega, k3.fb f4, k4, hE, (((fr.trans f1.y9).trans f2.y9).trans f3.y9).trans f4.y9⟩)
                  · show jT _ _ 128 _ _ _ _
                    exfalso; omega
            · show jT _ _ 84 _ _ _ _
              show jT _ _ 84 _ _ _ _
              refine tl_iconst rfl ?_
              refine tl_goto (tgt := 89) rfl rfl ?_
              refine tl_iconst rfl ?_
              refine tl_v2v (c9 := 12) (r_fails l h1 B N (rn B N p).2 0 k1 _ 5 (by omega) (by omega) (by omega)) rfl rfl rfl rfl rfl (Nat.le_of_ble_eq_true rfl) (fun h2 p2 => ?_)
              obtain ⟨k2, f2⟩ := p2
              show jT _ _ 93 _ _ _ _
              -- leaf 2 at 93
              rw [if_pos (by omega)] at k2
              rw [show fu = fu - 1 + 1 by omega, rnQ, if_neg (by omega), if_neg x1, if_pos (by omega)] at hE
              subst hE
              exact r_rr93 l h2 B N _ 5 k2 (by decide) (many : Int) (wh : Int) 2 (V.length : Int) (by omega) (by omega) (by rw [f2.2 29 (by decide) (by decide), f1.2 29 (by decide) (by decide)]; exact i31) (by omega) _ _ P (fun m2 a b => hP _ ⟨⟨_, a, fun w => absurd w (by show ¬ (5 : Int) = 0; decide)⟩, fun w => absurd w (by show ¬ (5 : Int) = 0; decide), ((fr.trans f1.y9).trans f2.y9).trans b.y9⟩)
set_option maxRecDepth 20000 in
set_option maxHeartbeats 1000000 in
theorem r_readRow (l : Launch) (h : jH) (B : Nat → Int) (N many p wh : Nat) (hB : BB B N) (m64 : many ≤ 64) (w2 : wh < 2) (kr : RDR h B N p 0) : cV l 282 [.ref 388, .int (jI (many : Int)), .int (jI (wh : Int))] h (fun h' => (∃ p2, RDR h' B N p2 (rwR B N many p).1 ∧ ((rwR B N many p).1 = 0 → p2 = (rwR B N many p).2.1)) ∧ ((rwR B N many p).1 = 0 → BL h' (rwR B N many p).2.2 ∧ h' 412 wh = (rn B N p).1) ∧ (∀ x, x ≠ 388 → x ≠ 406 → x ≠ 412 → h' x = h x) ∧ (∀ q, q ≠ 29 → q ≠ 32 → q ≠ 33 → h' 388 q = h 388 q) ∧ ∀ q, q ≠ wh → h' 412 q = h 412 q) := by
  have kp := kr.2.2.2.2.2.2.1
  have pb := rn_b hB kp
  have zb1 := rnR_b hB kp ⟨Int.le_refl 0, by decide⟩
  have k0 : RDR (hs h 388 29 0) B N p 0 := kr.at9 (fun q hq => hs_k (by omega)) (hs_O (by decide))
  refine cV.of rfl rfl ?_
  refine tl_aload_n rfl rfl ?_
  refine tl_iconst rfl ?_
  refine tl_puti (c := 12) (k9 := 29) rfl rfl rfl rfl ?_
  refine tl_aload_n rfl rfl ?_
  refine tl_v0i (c9 := 12) (r_nextNum l (hs h 388 29 0) B N p 0 k0) rfl rfl rfl rfl rfl (Nat.le_of_ble_eq_true rfl) (fun z1 h1 p1 => ?_)
  obtain ⟨e1, k1, f1⟩ := p1
  show jT _ _ 9 _ _ _ _
  -- leaf 0 at 9
  by_cases x1 : (rn B N p).1 < 0
  · have ew : rwR B N many p = (3, (rn B N p).2, []) := by rw [rwR, if_pos x1]
    rw [(rnR_e hB kp).2 x1] at k1
    rw [← e1] at zb1
    refine tl_istore_n rfl (Nat.le_of_ble_eq_true rfl) rfl ?_
    refine tl_aload_n rfl rfl ?_
    refine tl_iload_n rfl rfl ?_
    refine tl_iconst rfl ?_
    refine tl_icmp_le (tgt := 20) rfl rfl ⟨by omega, by omega⟩ ⟨by omega, by omega⟩ (fun c1 => ?_) (fun c1 => ?_)
    · skip
      refine tl_iconst rfl ?_
      show jT _ _ 21 _ _ _ _
      refine tl_iconst rfl ?_
      refine tl_v2v (c9 := 12) (r_fails l h1 B N _ 3 k1 _ 5 (by omega) (by omega) (by omega)) rfl rfl rfl rfl rfl (Nat.le_of_ble_eq_true rfl) (fun h2 p2 => ?_)
      obtain ⟨k2, f2⟩ := p2
      rw [if_neg (by omega)] at k2
      show jT _ _ 25 _ _ _ _
      -- leaf 0 at 25
      refine tl_aload_n rfl rfl ?_
      refine tl_getr (c := 12) (k9 := 43) (b := 412) rfl rfl rfl rfl ?_
      refine tl_iload_n rfl rfl ?_
      refine tl_iload_n rfl rfl ?_
      refine tl_iast (n := 2) rfl rfl rfl (by omega) (by omega) ?_
      rw [Int.toNat_natCast]
      have k3 : RDR (hs h2 412 wh z1) B N _ 3 := k2.at9 (fun q hq => hs_o (by decide)) (hs_O (by decide))
      refine tl_iload_n rfl rfl ?_
      show jT _ _ 33 _ _ _ _
      refine tl_if_ne (tgt := 41) rfl rfl ⟨by omega, by omega⟩ (fun c1 => ?_) (fun c1 => ?_)
      · skip
        show jT _ _ 41 _ _ _ _
        -- leaf 0 at 41
        refine jT.loc (L' := [some (.ref 388), some (.int (jI ((many : Int)))), some (.int (jI ((wh : Int)))), some (.int (jI (z1))), none, none]) rfl (r_rr41 l (hs h2 412 wh z1) B N _ 3 k3 (by decide) (many : Int) (wh : Int) z1 0 (by omega) (by omega) (by rw [hs_o (by decide), f2.2 29 (by decide) (by decide), f1.2 29 (by decide) (by decide), hs_s]) (by omega) _ _ _ (fun m2 a b => ?_))
        refine ⟨rfl, ⟨_, by rw [ew]; exact a, fun w => by rw [ew] at w; exact absurd w (by show ¬ (3 : Int) = 0; decide)⟩, fun w => by rw [ew] at w; exact absurd w (by show ¬ (3 : Int) = 0; decide), ?_, ?_, ?_⟩
        · intro x a1 a2 a3
          rw [b.y9.1 x a1 a2, hs_O a3, f2.1 x a1, f1.1 x a1, hs_O a1]
        · intro q a1 a2 a3
          rw [b.y9.2 q a1 a2 a3, hs_o (by decide), f2.2 q a2 a3, f1.2 q a2 a3, hs_k a1]
        · intro q a1
          rw [b.y9.1 412 (by decide) (by decide), hs_k a1, f2.1 412 (by decide), f1.1 412 (by decide), hs_o (by decide)]
      · show jT _ _ 36 _ _ _ _
        refine tl_aload_n rfl rfl ?_
        refine tl_iload_n rfl rfl ?_
        refine tl_v1v (c9 := 12) (r_readBytesZ l (hs h2 412 wh z1) (many : Int) (by omega) 3 k3.2.2.1 (by decide) (by decide)) rfl rfl rfl rfl rfl (Nat.le_of_ble_eq_true rfl) (fun h3 p3 => ?_)
        have p3 := p3.symm
        subst p3
        show jT _ _ 41 _ _ _ _
        -- leaf 1 at 41
        refine jT.loc (L' := [some (.ref 388), some (.int (jI ((many : Int)))), some (.int (jI ((wh : Int)))), some (.int (jI (z1))), none, none]) rfl (r_rr41 l (hs h2 412 wh z1) B N _ 3 k3 (by decide) (many : Int) (wh : Int) z1 0 (by omega) (by omega) (by rw [hs_o (by decide), f2.2 29 (by decide) (by decide), f1.2 29 (by decide) (by decide), hs_s]) (by omega) _ _ _ (fun m2 a b => ?_))
        refine ⟨rfl, ⟨_, by rw [ew]; exact a, fun w => by rw [ew] at w; exact absurd w (by show ¬ (3 : Int) = 0; decide)⟩, fun w => by rw [ew] at w; exact absurd w (by show ¬ (3 : Int) = 0; decide), ?_, ?_, ?_⟩
        · intro x a1 a2 a3
          rw [b.y9.1 x a1 a2, hs_O a3, f2.1 x a1, f1.1 x a1, hs_O a1]
        · intro q a1 a2 a3
          rw [b.y9.2 q a1 a2 a3, hs_o (by decide), f2.2 q a2 a3, f1.2 q a2 a3, hs_k a1]
        · intro q a1
          rw [b.y9.1 412 (by decide) (by decide), hs_k a1, f2.1 412 (by decide), f1.1 412 (by decide), hs_o (by decide)]
    · show jT _ _ 16 _ _ _ _
      refine tl_iconst rfl ?_
      refine tl_goto (tgt := 21) rfl rfl ?_
      refine tl_iconst rfl ?_
      refine tl_v2v (c9 := 12) (r_fails l h1 B N _ 3 k1 _ 5 (by omega) (by omega) (by omega)) rfl rfl rfl rfl rfl (Nat.le_of_ble_eq_true rfl) (fun h2 p2 => ?_)
      obtain ⟨k2, f2⟩ := p2
      rw [if_neg (by omega)] at k2
      show jT _ _ 25 _ _ _ _
      -- leaf 1 at 25
      refine tl_aload_n rfl rfl ?_
      refine tl_getr (c := 12) (k9 := 43) (b := 412) rfl rfl rfl rfl ?_
      refine tl_iload_n rfl rfl ?_
      refine tl_iload_n rfl rfl ?_
      refine tl_iast (n := 2) rfl rfl rfl (by omega) (by omega) ?_
      rw [Int.toNat_natCast]
      have k3 : RDR (hs h2 412 wh z1) B N _ 3 := k2.at9 (fun q hq => hs_o (by decide)) (hs_O (by decide))
      refine tl_iload_n rfl rfl ?_
      show jT _ _ 33 _ _ _ _
      refine tl_if_ne (tgt := 41) rfl rfl ⟨by omega, by omega⟩ (fun c1 => ?_) (fun c1 => ?_)
      · skip
        show jT _ _ 41 _ _ _ _
        -- leaf 0 at 41
        refine jT.loc (L' := [some (.ref 388), some (.int (jI ((many : Int)))), some (.int (jI ((wh : Int)))), some (.int (jI (z1))), none, none]) rfl (r_rr41 l (hs h2 412 wh z1) B N _ 3 k3 (by decide) (many : Int) (wh : Int) z1 0 (by omega) (by omega) (by rw [hs_o (by decide), f2.2 29 (by decide) (by decide), f1.2 29 (by decide) (by decide), hs_s]) (by omega) _ _ _ (fun m2 a b => ?_))
        refine ⟨rfl, ⟨_, by rw [ew]; exact a, fun w => by rw [ew] at w; exact absurd w (by show ¬ (3 : Int) = 0; decide)⟩, fun w => by rw [ew] at w; exact absurd w (by show ¬ (3 : Int) = 0; decide), ?_, ?_, ?_⟩
        · intro x a1 a2 a3
          rw [b.y9.1 x a1 a2, hs_O a3, f2.1 x a1, f1.1 x a1, hs_O a1]
        · intro q a1 a2 a3
          rw [b.y9.2 q a1 a2 a3, hs_o (by decide), f2.2 q a2 a3, f1.2 q a2 a3, hs_k a1]
        · intro q a1
          rw [b.y9.1 412 (by decide) (by decide), hs_k a1, f2.1 412 (by decide), f1.1 412 (by decide), hs_o (by decide)]
      · show jT _ _ 36 _ _ _ _
        refine tl_aload_n rfl rfl ?_
        refine tl_iload_n rfl rfl ?_
        refine tl_v1v (c9 := 12) (r_readBytesZ l (hs h2 412 wh z1) (many : Int) (by omega) 3 k3.2.2.1 (by decide) (by decide)) rfl rfl rfl rfl rfl (Nat.le_of_ble_eq_true rfl) (fun h3 p3 => ?_)
        have p3 := p3.symm
        subst p3
        show jT _ _ 41 _ _ _ _
        -- leaf 1 at 41
        refine jT.loc (L' := [some (.ref 388), some (.int (jI ((many : Int)))), some (.int (jI ((wh : Int)))), some (.int (jI (z1))), none, none]) rfl (r_rr41 l (hs h2 412 wh z1) B N _ 3 k3 (by decide) (many : Int) (wh : Int) z1 0 (by omega) (by omega) (by rw [hs_o (by decide), f2.2 29 (by decide) (by decide), f1.2 29 (by decide) (by decide), hs_s]) (by omega) _ _ _ (fun m2 a b => ?_))
        refine ⟨rfl, ⟨_, by rw [ew]; exact a, fun w => by rw [ew] at w; exact absurd w (by show ¬ (3 : Int) = 0; decide)⟩, fun w => by rw [ew] at w; exact absurd w (by show ¬ (3 : Int) = 0; decide), ?_, ?_, ?_⟩
        · intro x a1 a2 a3
          rw [b.y9.1 x a1 a2, hs_O a3, f2.1 x a1, f1.1 x a1, hs_O a1]
        · intro q a1 a2 a3
          rw [b.y9.2 q a1 a2 a3, hs_o (by decide), f2.2 q a2 a3, f1.2 q a2 a3, hs_k a1]
        · intro q a1
          rw [b.y9.1 412 (by decide) (by decide), hs_k a1, f2.1 412 (by decide), f1.1 412 (by decide), hs_o (by decide)]
  rw [(rnR_e hB kp).1 (by omega)] at e1 k1
  have e1 : z1 = (rn B N p).1 := e1
  subst e1
  change RDR h1 B N (rn B N p).2 0 at k1
  refine tl_istore_n rfl (Nat.le_of_ble_eq_true rfl) rfl ?_
  refine tl_aload_n rfl rfl ?_
  refine tl_iload_n rfl rfl ?_
  refine tl_iconst rfl ?_
  refine tl_icmp_le (tgt := 20) rfl rfl ⟨by omega, by omega⟩ ⟨by omega, by omega⟩ (fun c1 => ?_) (fun c1 => ?_)
  · skip
    refine tl_iconst rfl ?_
    show jT _ _ 21 _ _ _ _
    refine tl_iconst rfl ?_
    refine tl_v2v (c9 := 12) (r_fails l h1 B N (rn B N p).2 0 k1 _ 5 (by omega) (by omega) (by omega)) rfl rfl rfl rfl rfl (Nat.le_of_ble_eq_true rfl) (fun h2 p2 => ?_)
    obtain ⟨k2, f2⟩ := p2
    show jT _ _ 25 _ _ _ _
    -- leaf 0 at 25
    rw [if_neg (by omega)] at k2
    have x2 : ¬ 2 < (rn B N p).1 := by omega
    by_cases w9 : (rn B N p).1 = 0
    · skip
      have ew : rwR B N many p = (plF B N many (rn B N p).2 []) := by rw [rwR, if_neg x1, if_neg x2, if_pos w9]
      rw [ew]
      have k3 : RDR (hs h2 412 wh (rn B N p).1) B N (rn B N p).2 0 := k2.at9 (fun q hq => hs_o (by decide)) (hs_O (by decide))
      have b3 : BL (hs h2 412 wh (rn B N p).1) [] := ⟨by rw [hs_o (by decide), f2.2 29 (by decide) (by decide), f1.2 29 (by decide) (by decide), hs_s]; rfl, fun i hi => absurd hi (by show ¬ i < 0; omega)⟩
      refine tl_aload_n rfl rfl ?_
      refine tl_getr (c := 12) (k9 := 43) (b := 412) rfl rfl rfl rfl ?_
      refine tl_iload_n rfl rfl ?_
      refine tl_iload_n rfl rfl ?_
      refine tl_iast (n := 2) rfl rfl rfl (by omega) (by omega) ?_
      rw [Int.toNat_natCast]
      refine tl_iload_n rfl rfl ?_
      show jT _ _ 33 _ _ _ _
      refine tl_if_ne (tgt := 41) rfl rfl ⟨by omega, by omega⟩ (fun c1 => ?_) (fun c1 => ?_)
      · skip
        exfalso; omega
      · show jT _ _ 36 _ _ _ _
        refine tl_aload_n rfl rfl ?_
        refine tl_iload_n rfl rfl ?_
        refine tl_v1v (c9 := 12) (r_readBytes l (hs h2 412 wh (rn B N p).1) B N (rn B N p).2 hB [] (many : Int) (by omega) (by show 0 + _ ≤ 64; omega) b3 k3) rfl rfl rfl rfl rfl (Nat.le_of_ble_eq_true rfl) (fun h4 p4 => ?_)
        rw [Int.toNat_natCast] at p4
        show jT _ _ 41 _ _ _ _
        -- leaf 0 at 41
        obtain ⟨⟨p4, k4, e4⟩, g4, n4, f4⟩ := p4
        have hz : (∃ p2, RDR h4 B N p2 (plF B N many (rn B N p).2 []).1 ∧ ((plF B N many (rn B N p).2 []).1 = 0 → p2 = (plF B N many (rn B N p).2 []).2.1)) ∧ ((plF B N many (rn B N p).2 []).1 = 0 → BL h4 (plF B N many (rn B N p).2 []).2.2) ∧ FY9 (hs h2 412 wh (rn B N p).1) h4 := ⟨⟨p4, k4, e4⟩, g4, f4⟩
        have k48 := k4.2.2.2.2.2.2.2
        refine tl_aload_n rfl rfl ?_
        refine tl_geti (c := 12) (k9 := 29) rfl rfl rfl ?_
        refine tl_iload_n rfl rfl ?_
        refine tl_icmp_ge (tgt := 184) rfl rfl ⟨by omega, by omega⟩ ⟨by omega, by omega⟩ (fun c1 => ?_) (fun c1 => ?_)
        · skip
          refine tl_ret rfl ?_
          -- leaf 0 at 184
          refine ⟨rfl, hz.1, fun w => ⟨hz.2.1 w, ?_⟩, ?_, ?_, ?_⟩
          · rw [hz.2.2.1 412 (by decide) (by decide), hs_s]
          · intro x a1 a2 a3
            rw [hz.2.2.1 x a1 a2, hs_O a3, f2.1 x a1, f1.1 x a1, hs_O a1]
          · intro q a1 a2 a3
            rw [hz.2.2.2 q a1 a2 a3, hs_o (by decide), f2.2 q a2 a3, f1.2 q a2 a3, hs_k a1]
          · intro q a1
            rw [hz.2.2.1 412 (by decide) (by decide), hs_k a1, f2.1 412 (by decide), f1.1 412 (by decide), hs_o (by decide)]
        · show jT _ _ 49 _ _ _ _
          refine tl_aload_n rfl rfl ?_
          show jT _ _ 50 _ _ _ _
          refine tl_geti (c := 12) (k9 := 33) rfl rfl rfl ?_
          rw [k4.2.2.1]
          refine tl_if_ne (tgt := 184) rfl rfl ⟨by omega, by omega⟩ (fun c2 => ?_) (fun c2 => ?_)
          · skip
            refine tl_ret rfl ?_
            -- leaf 1 at 184
            refine ⟨rfl, hz.1, fun w => ⟨hz.2.1 w, ?_⟩, ?_, ?_, ?_⟩
            · rw [hz.2.2.1 412 (by decide) (by decide), hs_s]
            · intro x a1 a2 a3
              rw [hz.2.2.1 x a1 a2, hs_O a3, f2.1 x a1, f1.1 x a1, hs_O a1]
            · intro q a1 a2 a3
              rw [hz.2.2.2 q a1 a2 a3, hs_o (by decide), f2.2 q a2 a3, f1.2 q a2 a3, hs_k a1]
            · intro q a1
              rw [hz.2.2.1 412 (by decide) (by decide), hs_k a1, f2.1 412 (by decide), f1.1 412 (by decide), hs_o (by decide)]
          · show jT _ _ 56 _ _ _ _
            show jT _ _ 56 _ _ _ _
            -- leaf 2 at 56
            exfalso
            have z4 : (plF B N many (rn B N p).2 []).1 = 0 := by omega
            have g41 := (g4 z4).1
            have lp := (plF_b hB many (rn B N p).2 [] pb.2.2.1).2.2.1 z4
            rw [lp] at g41
            have : ([] : List Int).length = 0 := rfl
            omega
    by_cases w9 : (rn B N p).1 = 1
    · skip
      have ew : rwR B N many p = (zrR B N many many (rn B N p).2 []) := by rw [rwR, if_neg x1, if_neg x2, if_neg (by omega), if_pos w9]
      rw [ew]
      have k3 : RDR (hs h2 412 wh (rn B N p).1) B N (rn B N p).2 0 := k2.at9 (fun q hq => hs_o (by decide)) (hs_O (by decide))
      have b3 : BL (hs h2 412 wh (rn B N p).1) [] := ⟨by rw [hs_o (by decide), f2.2 29 (by decide) (by decide), f1.2 29 (by decide) (by decide), hs_s]; rfl, fun i hi => absurd hi (by show ¬ i < 0; omega)⟩
      refine tl_aload_n rfl rfl ?_
      refine tl_getr (c := 12) (k9 := 43) (b := 412) rfl rfl rfl rfl ?_
      refine tl_iload_n rfl rfl ?_
      refine tl_iload_n rfl rfl ?_
      refine tl_iast (n := 2) rfl rfl rfl (by omega) (by omega) ?_
      rw [Int.toNat_natCast]
      refine tl_iload_n rfl rfl ?_
      show jT _ _ 33 _ _ _ _
      refine tl_if_ne (tgt := 41) rfl rfl ⟨by omega, by omega⟩ (fun c1 => ?_) (fun c1 => ?_)
      · skip
        show jT _ _ 41 _ _ _ _
        -- leaf 0 at 41
        refine jT.loc (L' := [some (.ref 388), some (.int (jI ((many : Int)))), some (.int (jI ((wh : Int)))), some (.int (jI (1))), none, none]) (by rw [w9]; rfl) (r_zr_lp l (hs h2 412 wh (rn B N p).1) B N many wh hB m64 _ _ (fun mem hz => ?_) _ (rn B N p).2 [] many _ none none (Nat.lt_succ_self _) ⟨Nat.zero_le _, by omega, k3, b3, rfl, FY9.rfl'⟩)
        refine ⟨rfl, hz.1, fun w => ⟨hz.2.1 w, ?_⟩, ?_, ?_, ?_⟩
        · rw [hz.2.2.1 412 (by decide) (by decide), hs_s]
        · intro x a1 a2 a3
          rw [hz.2.2.1 x a1 a2, hs_O a3, f2.1 x a1, f1.1 x a1, hs_O a1]
        · intro q a1 a2 a3
          rw [hz.2.2.2 q a1 a2 a3, hs_o (by decide), f2.2 q a2 a3, f1.2 q a2 a3, hs_k a1]
        · intro q a1
          rw [hz.2.2.1 412 (by decide) (by decide), hs_k a1, f2.1 412 (by decide), f1.1 412 (by decide), hs_o (by decide)]
      · show jT _ _ 36 _ _ _ _
        exfalso; omega
    have w8 : (rn B N p).1 = 2 := by omega
    have ew : rwR B N many p = (rnQ B N many many (rn B N p).2 []) := by rw [rwR, if_neg x1, if_neg x2, if_neg (by omega), if_neg (by omega)]
    rw [ew]
    have k3 : RDR (hs h2 412 wh (rn B N p).1) B N (rn B N p).2 0 := k2.at9 (fun q hq => hs_o (by decide)) (hs_O (by decide))
    have b3 : BL (hs h2 412 wh (rn B N p).1) [] := ⟨by rw [hs_o (by decide), f2.2 29 (by decide) (by decide), f1.2 29 (by decide) (by decide), hs_s]; rfl, fun i hi => absurd hi (by show ¬ i < 0; omega)⟩
    refine tl_aload_n rfl rfl ?_
    refine tl_getr (c := 12) (k9 := 43) (b := 412) rfl rfl rfl rfl ?_
    refine tl_iload_n rfl rfl ?_
    refine tl_iload_n rfl rfl ?_
    refine tl_iast (n := 2) rfl rfl rfl (by omega) (by omega) ?_
    rw [Int.toNat_natCast]
    refine tl_iload_n rfl rfl ?_
    show jT _ _ 33 _ _ _ _
    refine tl_if_ne (tgt := 41) rfl rfl ⟨by omega, by omega⟩ (fun c1 => ?_) (fun c1 => ?_)
    · skip
      show jT _ _ 41 _ _ _ _
      -- leaf 0 at 41
      refine jT.loc (L' := [some (.ref 388), some (.int (jI ((many : Int)))), some (.int (jI ((wh : Int)))), some (.int (jI (2))), none, none]) (by rw [w8]; rfl) (r_rq_lp l (hs h2 412 wh (rn B N p).1) B N many wh hB m64 _ _ (fun mem hz => ?_) _ (rn B N p).2 [] many _ none none (Nat.lt_succ_self _) ⟨Nat.zero_le _, by omega, k3, b3, rfl, FY9.rfl'⟩)
      refine ⟨rfl, hz.1, fun w => ⟨hz.2.1 w, ?_⟩, ?_, ?_, ?_⟩
      · rw [hz.2.2.1 412 (by decide) (by decide), hs_s]
      · intro x a1 a2 a3
        rw [hz.2.2.1 x a1 a2, hs_O a3, f2.1 x a1, f1.1 x a1, hs_O a1]
      · intro q a1 a2 a3
        rw [hz.2.2.2 q a1 a2 a3, hs_o (by decide), f2.2 q a2 a3, f1.2 q a2 a3, hs_k a1]
      · intro q a1
        rw [hz.2.2.1 412 (by decide) (by decide), hs_k a1, f2.1 412 (by decide), f1.1 412 (by decide), hs_o (by decide)]
    · show jT _ _ 36 _ _ _ _
      exfalso; omega
  · show jT _ _ 16 _ _ _ _
    refine tl_iconst rfl ?_
    refine tl_goto (tgt := 21) rfl rfl ?_
    refine tl_iconst rfl ?_
    refine tl_v2v (c9 := 12) (r_fails l h1 B N (rn B N p).2 0 k1 _ 5 (by omega) (by omega) (by omega)) rfl rfl rfl rfl rfl (Nat.le_of_ble_eq_true rfl) (fun h2 p2 => ?_)
    obtain ⟨k2, f2⟩ := p2
    show jT _ _ 25 _ _ _ _
    -- leaf 1 at 25
    rw [if_pos (by omega)] at k2
    have ew : rwR B N many p = (5, (rn B N p).2, []) := by rw [rwR, if_neg x1, if_pos (by omega)]
    refine tl_aload_n rfl rfl ?_
    refine tl_getr (c := 12) (k9 := 43) (b := 412) rfl rfl rfl rfl ?_
    refine tl_iload_n rfl rfl ?_
    refine tl_iload_n rfl rfl ?_
    refine tl_iast (n := 2) rfl rfl rfl (by omega) (by omega) ?_
    rw [Int.toNat_natCast]
    have k3 : RDR (hs h2 412 wh (rn B N p).1) B N _ 5 := k2.at9 (fun q hq => hs_o (by decide)) (hs_O (by decide))
    refine tl_iload_n rfl rfl ?_
    show jT _ _ 33 _ _ _ _
    refine tl_if_ne (tgt := 41) rfl rfl ⟨by omega, by omega⟩ (fun c1 => ?_) (fun c1 => ?_)
    · skip
      show jT _ _ 41 _ _ _ _
      -- leaf 0 at 41
      refine jT.loc (L' := [some (.ref 388), some (.int (jI ((many : Int)))), some (.int (jI ((wh : Int)))), some (.int (jI ((rn B N p).1))), none, none]) rfl (r_rr41 l (hs h2 412 wh (rn B N p).1) B N _ 5 k3 (by decide) (many : Int) (wh : Int) (rn B N p).1 0 (by omega) (by omega) (by rw [hs_o (by decide), f2.2 29 (by decide) (by decide), f1.2 29 (by decide) (by decide), hs_s]) (by omega) _ _ _ (fun m2 a b => ?_))
      refine ⟨rfl, ⟨_, by rw [ew]; exact a, fun w => by rw [ew] at w; exact absurd w (by show ¬ (5 : Int) = 0; decide)⟩, fun w => by rw [ew] at w; exact absurd w (by show ¬ (5 : Int) = 0; decide), ?_, ?_, ?_⟩
      · intro x a1 a2 a3
        rw [b.y9.1 x a1 a2, hs_O a3, f2.1 x a1, f1.1 x a1, hs_O a1]
      · intro q a1 a2 a3
        rw [b.y9.2 q a1 a2 a3, hs_o (by decide), f2.2 q a2 a3, f1.2 q a2 a3, hs_k a1]
      · intro q a1
        rw [b.y9.1 412 (by decide) (by decide), hs_k a1, f2.1 412 (by decide), f1.1 412 (by decide), hs_o (by decide)]
    · show jT _ _ 36 _ _ _ _
      refine tl_aload_n rfl rfl ?_
      refine tl_iload_n rfl rfl ?_
      refine tl_v1v (c9 := 12) (r_readBytesZ l (hs h2 412 wh (rn B N p).1) (many : Int) (by omega) 5 k3.2.2.1 (by decide) (by decide)) rfl rfl rfl rfl rfl (Nat.le_of_ble_eq_true rfl) (fun h3 p3 => ?_)
      have p3 := p3.symm
      subst p3
      show jT _ _ 41 _ _ _ _
      -- leaf 1 at 41
      refine jT.loc (L' := [some (.ref 388), some (.int (jI ((many : Int)))), some (.int (jI ((wh : Int)))), some (.int (jI ((rn B N p).1))), none, none]) rfl (r_rr41 l (hs h2 412 wh (rn B N p).1) B N _ 5 k3 (by decide) (many : Int) (wh : Int) (rn B N p).1 0 (by omega) (by omega) (by rw [hs_o (by decide), f2.2 29 (by decide) (by decide), f1.2 29 (by decide) (by decide), hs_s]) (by omega) _ _ _ (fun m2 a b => ?_))
      refine ⟨rfl, ⟨_, by rw [ew]; exact a, fun w => by rw [ew] at w; exact absurd w (by show ¬ (5 : Int) = 0; decide)⟩, fun w => by rw [ew] at w; exact absurd w (by show ¬ (5 : Int) = 0; decide), ?_, ?_, ?_⟩
      · intro x a1 a2 a3
        rw [b.y9.1 x a1 a2, hs_O a3, f2.1 x a1, f1.1 x a1, hs_O a1]
      · intro q a1 a2 a3
        rw [b.y9.2 q a1 a2 a3, hs_o (by decide), f2.2 q a2 a3, f1.2 q a2 a3, hs_k a1]
      · intro q a1
        rw [b.y9.1 412 (by decide) (by decide), hs_k a1, f2.1 412 (by decide), f1.1 412 (by decide), hs_o (by decide)]
