/-! recipes: run, of the reference: the loop -/
def OPR (T : jH) (mem : jH) (d : Nat) (OP TU : Nat → Int) : Prop := ∀ e, e < d → mem 426 e = OP e ∧ 0 ≤ OP e ∧ OP e < 24 ∧ mem 424 (OP e).toNat = T 4 (OP e).toNat ∧ 0 ≤ T 4 (OP e).toNat ∧ T 4 (OP e).toNat ≤ 24 ∧ mem 427 e = TU e ∧ 1 ≤ TU e ∧ TU e ≤ 9
theorem LP9.opr {D : Nat → Nat} {S : Nat → Nat → Nat} {T mem : jH} {ns k d : Nat} {SD : List Int} {OP TU : Nat → Int} (h : WF9 D S T ns SD) (ct : RTb mem T SD ns) (p : LP9 D S ns k d OP TU) (e1 : ∀ e, e < d → mem 426 e = OP e ∧ mem 427 e = TU e) : OPR T mem d OP TU := by
  intro e he
  have a := p.al h he
  have b := p.2.2 e he
  have n24 := h.2.2.1
  have c := ct.2.2.2.1 (OP e).toNat (by omega) a.2.2.2.2.1
  exact ⟨(e1 e he).1, a.2.2.1, by omega, c, by omega, by omega, (e1 e he).2, b.2⟩
set_option maxRecDepth 20000 in
set_option maxHeartbeats 1000000 in
theorem r_s7 (l : Launch) (mem : jH) (k ns d : Nat) (w9 : Int) (k9 : k ≤ 99) (n9 : ns ≤ 24) (d9 : d ≤ 9) (en : mem 388 62 = (ns : Int)) (ed : mem 388 72 = (d : Int)) (ew : mem 388 73 = w9) (wr : -5 ≤ w9 ∧ w9 ≤ 0) (hx : w9 ≠ 0 ∨ (ns ≤ k ∧ d = 0)) (P : Option Value → jH → Prop) (hP : P none mem) : jT l 331 7 [some (.ref 388), some (.int (jI ((k : Int))))] [] mem P := by
  refine tl_iload_n rfl rfl ?_
  refine tl_aload_n rfl rfl ?_
  refine tl_geti (c := 12) (k9 := 62) rfl rfl rfl ?_
  rw [en]
  refine tl_icmp_lt (tgt := 22) rfl rfl ⟨by omega, by omega⟩ ⟨by omega, by omega⟩ (fun c1 => ?_) (fun c1 => ?_)
  · skip
    refine tl_aload_n rfl rfl ?_
    refine tl_geti (c := 12) (k9 := 73) rfl rfl rfl ?_
    rw [ew]
    show jT _ _ 26 _ _ _ _
    refine tl_if_ne (tgt := 177) rfl rfl ⟨by omega, by omega⟩ (fun c2 => ?_) (fun c2 => ?_)
    · skip
      refine tl_ret rfl ?_
      -- leaf 0 at 177
      first
        | exact hP
        | (exfalso; omega)
    · show jT _ _ 29 _ _ _ _
      show jT _ _ 29 _ _ _ _
      -- leaf 1 at 29
      exfalso; omega
  · show jT _ _ 15 _ _ _ _
    refine tl_aload_n rfl rfl ?_
    refine tl_geti (c := 12) (k9 := 72) rfl rfl rfl ?_
    rw [ed]
    refine tl_if_le (tgt := 177) rfl rfl ⟨by omega, by omega⟩ (fun c3 => ?_) (fun c3 => ?_)
    · skip
      refine tl_ret rfl ?_
      -- leaf 2 at 177
      first
        | exact hP
        | (exfalso; omega)
    · show jT _ _ 22 _ _ _ _
      refine tl_aload_n rfl rfl ?_
      show jT _ _ 23 _ _ _ _
      refine tl_geti (c := 12) (k9 := 73) rfl rfl rfl ?_
      rw [ew]
      refine tl_if_ne (tgt := 177) rfl rfl ⟨by omega, by omega⟩ (fun c4 => ?_) (fun c4 => ?_)
      · skip
        refine tl_ret rfl ?_
        -- leaf 3 at 177
        first
          | exact hP
          | (exfalso; omega)
      · show jT _ _ 29 _ _ _ _
        show jT _ _ 29 _ _ _ _
        -- leaf 4 at 29
        exfalso; omega
set_option maxRecDepth 20000 in
set_option maxHeartbeats 1000000 in
theorem r_close (l : Launch) (h T : jH) (ns k : Nat) (k25 : k ≤ 25) (n24 : ns ≤ 24) (OP : Nat → Int) (X : Nat × Nat × (Nat → Int)) (P : Option Value → jH → Prop) (hx : ∀ mem, (mem 388 72 = (X.2.1 : Int) ∧ (∀ e, e < X.2.1 → mem 427 e = X.2.2 e) ∧ ((∀ x, x ≠ 388 → x ≠ 427 → mem x = h x) ∧ ∀ q, q ≠ 72 → mem 388 q = h 388 q)) → jT l 331 7 [some (.ref 388), some (.int (jI ((X.1 : Int))))] [] mem P) : ∀ (m : Nat) (d : Nat) (TU : Nat → Int) (mem : jH), d < m → (d ≤ 4 ∧ mem 388 62 = (ns : Int) ∧ mem 388 72 = (d : Int) ∧ mem 388 73 = 0 ∧ OPR T mem d OP TU ∧ cl9 T d k OP TU = X ∧ ((∀ x, x ≠ 388 → x ≠ 427 → mem x = h x) ∧ ∀ q, q ≠ 72 → mem 388 q = h 388 q)) → jT l 331 7 [some (.ref 388), some (.int (jI ((k : Int))))] [] mem P := by
  intro m
  induction m with
  | zero => intro d TU mem hk; omega
  | succ m ih0 =>
    intro d TU mem hk hi
    obtain ⟨d4, en, ed, ew, op, eX, fr, fr2⟩ := hi
    by_cases d0 : d = 0
    · subst d0
      rw [cl9] at eX
      subst eX
      exact hx mem ⟨ed, fun e he => absurd he (Nat.not_lt_zero _), fr, fr2⟩
    · have o1 := op (d - 1) (by omega)
      by_cases q : (k : Int) = T 4 (OP (d - 1)).toNat
      rotate_left
      · rw [cl9_O (by omega) q] at eX
        subst eX
        exact hx mem ⟨ed, fun e he => (op e he).2.2.2.2.2.2.1, fr, fr2⟩
      refine tl_iload_n rfl rfl ?_
      refine tl_aload_n rfl rfl ?_
      refine tl_geti (c := 12) (k9 := 62) rfl rfl rfl ?_
      rw [en]
      refine tl_icmp_lt (tgt := 22) rfl rfl ⟨by omega, by omega⟩ ⟨by omega, by omega⟩ (fun c1 => ?_) (fun c1 => ?_)
      · skip
        refine tl_aload_n rfl rfl ?_
        refine tl_geti (c := 12) (k9 := 73) rfl rfl rfl ?_
        rw [ew]
        show jT _ _ 26 _ _ _ _
        refine tl_if_ne (tgt := 177) rfl rfl ⟨by omega, by omega⟩ (fun c2 => ?_) (fun c2 => ?_)
        · skip
          exfalso; omega
        · show jT _ _ 29 _ _ _ _
          refine tl_aload_n rfl rfl ?_
          refine tl_geti (c := 12) (k9 := 72) rfl rfl rfl ?_
          rw [ed]
          refine tl_if_le (tgt := 115) rfl rfl ⟨by omega, by omega⟩ (fun c3 => ?_) (fun c3 => ?_)
          · skip
            exfalso; omega
          · show jT _ _ 36 _ _ _ _
            refine tl_iload_n rfl rfl ?_
            refine tl_aload_n rfl rfl ?_
            refine tl_getr (c := 12) (k9 := 67) (b := 424) rfl rfl rfl rfl ?_
            show jT _ _ 41 _ _ _ _
            refine tl_aload_n rfl rfl ?_
            refine tl_getr (c := 12) (k9 := 70) (b := 426) rfl rfl rfl rfl ?_
            refine tl_aload_n rfl rfl ?_
            refine tl_geti (c := 12) (k9 := 72) rfl rfl rfl ?_
            rw [ed]
            refine tl_iconst rfl ?_
            refine tl_isub rfl ?_
            refine tl_iald (n := 5) rfl rfl rfl (by omega) (by omega) ?_
            rw [show ((d : Int) - 1).toNat = d - 1 by omega, show mem 426 (d - 1) = OP (d - 1) by omega]
            show jT _ _ 52 _ _ _ _
            refine tl_iald (n := 24) rfl rfl rfl (by omega) (by omega) ?_
            rw [show mem 424 (OP (d - 1)).toNat = T 4 (OP (d - 1)).toNat by omega]
            refine tl_icmp_ne (tgt := 115) rfl rfl ⟨by omega, by omega⟩ ⟨by omega, by omega⟩ (fun c4 => ?_) (fun c4 => ?_)
            · skip
              exfalso; omega
            · show jT _ _ 56 _ _ _ _
              refine tl_aload_n rfl rfl ?_
              refine tl_getr (c := 12) (k9 := 71) (b := 427) rfl rfl rfl rfl ?_
              refine tl_aload_n rfl rfl ?_
              refine tl_geti (c := 12) (k9 := 72) rfl rfl rfl ?_
              rw [ed]
              refine tl_iconst rfl ?_
              show jT _ _ 65 _ _ _ _
              refine tl_isub rfl ?_
              refine tl_dup2 rfl rfl rfl ?_
              refine tl_iald (n := 5) rfl rfl rfl (by omega) (by omega) ?_
              rw [show ((d : Int) - 1).toNat = d - 1 by omega, show mem 427 (d - 1) = TU (d - 1) by omega]
              refine tl_iconst rfl ?_
              refine tl_isub rfl ?_
              refine tl_iast (n := 5) rfl rfl rfl (by omega) (by omega) ?_
              rw [show ((d : Int) - 1).toNat = d - 1 by omega]
              refine tl_aload_n rfl rfl ?_
              show jT _ _ 72 _ _ _ _
              refine tl_getr (c := 12) (k9 := 71) (b := 427) rfl rfl rfl rfl ?_
              refine tl_aload_n rfl rfl ?_
              refine tl_geti (c := 12) (k9 := 72) rfl rfl rfl ?_
              rw [hs_o (by decide), ed]
              refine tl_iconst rfl ?_
              refine tl_isub rfl ?_
              refine tl_iald (n := 5) rfl rfl rfl (by omega) (by omega) ?_
              rw [show ((d : Int) - 1).toNat = d - 1 by omega, hs_s]
              refine tl_if_le (tgt := 102) rfl rfl ⟨by omega, by omega⟩ (fun c5 => ?_) (fun c5 => ?_)
              · skip
                show jT _ _ 102 _ _ _ _
                refine tl_aload_n rfl rfl ?_
                refine tl_dup rfl rfl ?_
                refine tl_geti (c := 12) (k9 := 72) rfl rfl rfl ?_
                rw [hs_o (by decide), ed]
                refine tl_iconst rfl ?_
                refine tl_isub rfl ?_
                refine tl_puti (c := 12) (k9 := 72) rfl rfl rfl rfl ?_
                refine tl_goto (tgt := 7) rfl rfl ?_
                show jT _ _ 7 _ _ _ _
                -- leaf 0 at 7
                first
                  | (exfalso; omega)
                  | (have q2 : 1 < TU (d - 1) := by omega
                     rw [cl9_B (by omega) (by omega) q2] at eX
                     subst eX
                     have z9 : (((OP (d - 1)).toNat + 1 : Nat) : Int) = OP (d - 1) + 1 := by omega
                     have hT : ∀ e, e < d → hs mem 427 (d - 1) (TU (d - 1) - 1) 427 e = ut9 TU (d - 1) (TU (d - 1) - 1) e := by
                       intro e he
                       by_cases ee : e = d - 1
                       · rw [ee, hs_s, ut9_s]
                       · rw [hs_k ee, ut9_o ee]; exact (op e he).2.2.2.2.2.2.1
                     have hq := hx (hs mem 427 (d - 1) (TU (d - 1) - 1)) ⟨by rw [hs_o (by decide)]; exact ed, hT, fun x a b => by rw [hs_O b]; exact fr x a b, fun q a => by rw [hs_o (by decide)]; exact fr2 q a⟩
                     change jT l 331 7 [some (.ref 388), some (.int (jI ((((OP (d - 1)).toNat + 1 : Nat) : Int))))] [] _ P at hq
                     rw [z9] at hq
                     exact hq)
                  | (have q2 : ¬ 1 < TU (d - 1) := by omega
                     rw [cl9_C (by omega) (by omega) q2] at eX
                     refine ih0 (d - 1) (ut9 TU (d - 1) (TU (d - 1) - 1)) _ (by omega) ⟨by omega, by rw [hs_k (by decide), hs_o (by decide)]; exact en, by rw [hs_s]; omega, by rw [hs_k (by decide), hs_o (by decide)]; exact ew, fun e he => ?_, eX, fun x a b => by rw [hs_O a, hs_O b]; exact fr x a b, fun q a => by rw [hs_k a, hs_o (by decide)]; exact fr2 q a⟩
                     have o3 := op e (by omega)
                     rw [hs_o (by decide), hs_o (by decide), hs_o (by decide), hs_o (by decide), hs_o (by decide), hs_k (by omega), ut9_o (by omega)]
                     exact o3)
              · show jT _ _ 85 _ _ _ _
                show jT _ _ 85 _ _ _ _
                refine tl_aload_n rfl rfl ?_
                refine tl_getr (c := 12) (k9 := 70) (b := 426) rfl rfl rfl rfl ?_
                refine tl_aload_n rfl rfl ?_
                refine tl_geti (c := 12) (k9 := 72) rfl rfl rfl ?_
                rw [hs_o (by decide), ed]
                refine tl_iconst rfl ?_
                refine tl_isub rfl ?_
                refine tl_iald (n := 5) rfl rfl rfl (by omega) (by omega) ?_
                rw [show ((d : Int) - 1).toNat = d - 1 by omega, hs_o (by decide), show mem 426 (d - 1) = OP (d - 1) by omega]
                show jT _ _ 96 _ _ _ _
                refine tl_iconst rfl ?_
                refine tl_iadd rfl ?_
                refine tl_istore_n rfl (Nat.le_of_ble_eq_true rfl) rfl ?_
                refine tl_goto (tgt := 7) rfl rfl ?_
                show jT _ _ 7 _ _ _ _
                -- leaf 1 at 7
                first
                  | (exfalso; omega)
                  | (have q2 : 1 < TU (d - 1) := by omega
                     rw [cl9_B (by omega) (by omega) q2] at eX
                     subst eX
                     have z9 : (((OP (d - 1)).toNat + 1 : Nat) : Int) = OP (d - 1) + 1 := by omega
                     have hT : ∀ e, e < d → hs mem 427 (d - 1) (TU (d - 1) - 1) 427 e = ut9 TU (d - 1) (TU (d - 1) - 1) e := by
                       intro e he
                       by_cases ee : e = d - 1
                       · rw [ee, hs_s, ut9_s]
                       · rw [hs_k ee, ut9_o ee]; exact (op e he).2.2.2.2.2.2.1
                     have hq := hx (hs mem 427 (d - 1) (TU (d - 1) - 1)) ⟨by rw [hs_o (by decide)]; exact ed, hT, fun x a b => by rw [hs_O b]; exact fr x a b, fun q a => by rw [hs_o (by decide)]; exact fr2 q a⟩
                     change jT l 331 7 [some (.ref 388), some (.int (jI ((((OP (d - 1)).toNat + 1 : Nat) : Int))))] [] _ P at hq
                     rw [z9] at hq
                     exact hq)
                  | (have q2 : ¬ 1 < TU (d - 1) := by omega
                     rw [cl9_C (by omega) (by omega) q2] at eX
                     refine ih0 (d - 1) (ut9 TU (d - 1) (TU (d - 1) - 1)) _ (by omega) ⟨by omega, by rw [hs_k (by decide), hs_o (by decide)]; exact en, by rw [hs_s]; omega, by rw [hs_k (by decide), hs_o (by decide)]; exact ew, fun e he => ?_, eX, fun x a b => by rw [hs_O a, hs_O b]; exact fr x a b, fun q a => by rw [hs_k a, hs_o (by decide)]; exact fr2 q a⟩
                     have o3 := op e (by omega)
                     rw [hs_o (by decide), hs_o (by decide), hs_o (by decide), hs_o (by decide), hs_o (by decide), hs_k (by omega), ut9_o (by omega)]
                     exact o3)
      · show jT _ _ 15 _ _ _ _
        refine tl_aload_n rfl rfl ?_
        refine tl_geti (c := 12) (k9 := 72) rfl rfl rfl ?_
        rw [ed]
        refine tl_if_le (tgt := 177) rfl rfl ⟨by omega, by omega⟩ (fun c6 => ?_) (fun c6 => ?_)
        · skip
          show jT _ _ 177 _ _ _ _
          refine tl_ret rfl ?_
          -- leaf 2 at 177
          exfalso; omega
        · show jT _ _ 22 _ _ _ _
          refine tl_aload_n rfl rfl ?_
          refine tl_geti (c := 12) (k9 := 73) rfl rfl rfl ?_
          rw [ew]
          refine tl_if_ne (tgt := 177) rfl rfl ⟨by omega, by omega⟩ (fun c7 => ?_) (fun c7 => ?_)
          · skip
            exfalso; omega
          · show jT _ _ 29 _ _ _ _
            refine tl_aload_n rfl rfl ?_
            refine tl_geti (c := 12) (k9 := 72) rfl rfl rfl ?_
            rw [ed]
            refine tl_if_le (tgt := 115) rfl rfl ⟨by omega, by omega⟩ (fun c8 => ?_) (fun c8 => ?_)
            · skip
              exfalso; omega
            · show jT _ _ 36 _ _ _ _
              show jT _ _ 36 _ _ _ _
              refine tl_iload_n rfl rfl ?_
              refine tl_aload_n rfl rfl ?_
              refine tl_getr (c := 12) (k9 := 67) (b := 424) rfl rfl rfl rfl ?_
              refine tl_aload_n rfl rfl ?_
              refine tl_getr (c := 12) (k9 := 70) (b := 426) rfl rfl rfl rfl ?_
              refine tl_aload_n rfl rfl ?_
              refine tl_geti (c := 12) (k9 := 72) rfl rfl rfl ?_
              rw [ed]
              show jT _ _ 49 _ _ _ _
              refine tl_iconst rfl ?_
              refine tl_isub rfl ?_
              refine tl_iald (n := 5) rfl rfl rfl (by omega) (by omega) ?_
              rw [show ((d : Int) - 1).toNat = d - 1 by omega, show mem 426 (d - 1) = OP (d - 1) by omega]
              refine tl_iald (n := 24) rfl rfl rfl (by omega) (by omega) ?_
              rw [show mem 424 (OP (d - 1)).toNat = T 4 (OP (d - 1)).toNat by omega]
              refine tl_icmp_ne (tgt := 115) rfl rfl ⟨by omega, by omega⟩ ⟨by omega, by omega⟩ (fun c9 => ?_) (fun c9 => ?_)
              · skip
                exfalso; omega
              · show jT _ _ 56 _ _ _ _
                refine tl_aload_n rfl rfl ?_
                refine tl_getr (c := 12) (k9 := 71) (b := 427) rfl rfl rfl rfl ?_
                show jT _ _ 60 _ _ _ _
                refine tl_aload_n rfl rfl ?_
                refine tl_geti (c := 12) (k9 := 72) rfl rfl rfl ?_
                rw [ed]
                refine tl_iconst rfl ?_
                refine tl_isub rfl ?_
                refine tl_dup2 rfl rfl rfl ?_
                refine tl_iald (n := 5) rfl rfl rfl (by omega) (by omega) ?_
                rw [show ((d : Int) - 1).toNat = d - 1 by omega, show mem 427 (d - 1) = TU (d - 1) by omega]
                refine tl_iconst rfl ?_
                show jT _ _ 69 _ _ _ _
                refine tl_isub rfl ?_
                refine tl_iast (n := 5) rfl rfl rfl (by omega) (by omega) ?_
                rw [show ((d : Int) - 1).toNat = d - 1 by omega]
                refine tl_aload_n rfl rfl ?_
                refine tl_getr (c := 12) (k9 := 71) (b := 427) rfl rfl rfl rfl ?_
                refine tl_aload_n rfl rfl ?_
                refine tl_geti (c := 12) (k9 := 72) rfl rfl rfl ?_
                rw [hs_o (by decide), ed]
                refine tl_iconst rfl ?_
                show jT _ _ 80 _ _ _ _
                refine tl_isub rfl ?_
                refine tl_iald (n := 5) rfl rfl rfl (by omega) (by omega) ?_
                rw [show ((d : Int) - 1).toNat = d - 1 by omega, hs_s]
                refine tl_if_le (tgt := 102) rfl rfl ⟨by omega, by omega⟩ (fun c10 => ?_) (fun c10 => ?_)
                · skip
                  refine tl_aload_n rfl rfl ?_
                  refine tl_dup rfl rfl ?_
                  refine tl_geti (c := 12) (k9 := 72) rfl rfl rfl ?_
                  rw [hs_o (by decide), ed]
                  refine tl_iconst rfl ?_
                  show jT _ _ 108 _ _ _ _
                  refine tl_isub rfl ?_
                  refine tl_puti (c := 12) (k9 := 72) rfl rfl rfl rfl ?_
                  refine tl_goto (tgt := 7) rfl rfl ?_
                  show jT _ _ 7 _ _ _ _
                  -- leaf 3 at 7
                  first
                    | (exfalso; omega)
                    | (have q2 : 1 < TU (d - 1) := by omega
                       rw [cl9_B (by omega) (by omega) q2] at eX
                       subst eX
                       have z9 : (((OP (d - 1)).toNat + 1 : Nat) : Int) = OP (d - 1) + 1 := by omega
                       have hT : ∀ e, e < d → hs mem 427 (d - 1) (TU (d - 1) - 1) 427 e = ut9 TU (d - 1) (TU (d - 1) - 1) e := by
                         intro e he
                         by_cases ee : e = d - 1
                         · rw [ee, hs_s, ut9_s]
                         · rw [hs_k ee, ut9_o ee]; exact (op e he).2.2.2.2.2.2.1
                       have hq := hx (hs mem 427 (d - 1) (TU (d - 1) - 1)) ⟨by rw [hs_o (by decide)]; exact ed, hT, fun x a b => by rw [hs_O b]; exact fr x a b, fun q a => by rw [hs_o (by decide)]; exact fr2 q a⟩
                       change jT l 331 7 [some (.ref 388), some (.int (jI ((((OP (d - 1)).toNat + 1 : Nat) : Int))))] [] _ P at hq
                       rw [z9] at hq
                       exact hq)
                    | (have q2 : ¬ 1 < TU (d - 1) := by omega
                       rw [cl9_C (by omega) (by omega) q2] at eX
                       refine ih0 (d - 1) (ut9 TU (d - 1) (TU (d - 1) - 1)) _ (by omega) ⟨by omega, by rw [hs_k (by decide), hs_o (by decide)]; exact en, by rw [hs_s]; omega, by rw [hs_k (by decide), hs_o (by decide)]; exact ew, fun e he => ?_, eX, fun x a b => by rw [hs_O a, hs_O b]; exact fr x a b, fun q a => by rw [hs_k a, hs_o (by decide)]; exact fr2 q a⟩
                       have o3 := op e (by omega)
                       rw [hs_o (by decide), hs_o (by decide), hs_o (by decide), hs_o (by decide), hs_o (by decide), hs_k (by omega), ut9_o (by omega)]
                       exact o3)
                · show jT _ _ 85 _ _ _ _
                  refine tl_aload_n rfl rfl ?_
                  refine tl_getr (c := 12) (k9 := 70) (b := 426) rfl rfl rfl rfl ?_
                  refine tl_aload_n rfl rfl ?_
                  refine tl_geti (c := 12) (k9 := 72) rfl rfl rfl ?_
                  rw [hs_o (by decide), ed]
                  show jT _ _ 93 _ _ _ _
                  refine tl_iconst rfl ?_
                  refine tl_isub rfl ?_
                  refine tl_iald (n := 5) rfl rfl rfl (by omega) (by omega) ?_
                  rw [show ((d : Int) - 1).toNat = d - 1 by omega, hs_o (by decide), show mem 426 (d - 1) = OP (d - 1) by omega]
                  refine tl_iconst rfl ?_
                  refine tl_iadd rfl ?_
                  refine tl_istore_n rfl (Nat.le_of_ble_eq_true rfl) rfl ?_
                  refine tl_goto (tgt := 7) rfl rfl ?_
                  show jT _ _ 7 _ _ _ _
                  -- leaf 4 at 7
                  first
                    | (exfalso; omega)
                    | (have q2 : 1 < TU (d - 1) := by omega
                       rw [cl9_B (by omega) (by omega) q2] at eX
                       subst eX
                       have z9 : (((OP (d - 1)).toNat + 1 : Nat) : Int) = OP (d - 1) + 1 := by omega
                       have hT : ∀ e, e < d → hs mem 427 (d - 1) (TU (d - 1) - 1) 427 e = ut9 TU (d - 1) (TU (d - 1) - 1) e := by
                         intro e he
                         by_cases ee : e = d - 1
                         · rw [ee, hs_s, ut9_s]
                         · rw [hs_k ee, ut9_o ee]; exact (op e he).2.2.2.2.2.2.1
                       have hq := hx (hs mem 427 (d - 1) (TU (d - 1) - 1)) ⟨by rw [hs_o (by decide)]; exact ed, hT, fun x a b => by rw [hs_O b]; exact fr x a b, fun q a => by rw [hs_o (by decide)]; exact fr2 q a⟩
                       change jT l 331 7 [some (.ref 388), some (.int (jI ((((OP (d - 1)).toNat + 1 : Nat) : Int))))] [] _ P at hq
                       rw [z9] at hq
                       exact hq)
                    | (have q2 : ¬ 1 < TU (d - 1) := by omega
                       rw [cl9_C (by omega) (by omega) q2] at eX
                       refine ih0 (d - 1) (ut9 TU (d - 1) (TU (d - 1) - 1)) _ (by omega) ⟨by omega, by rw [hs_k (by decide), hs_o (by decide)]; exact en, by rw [hs_s]; omega, by rw [hs_k (by decide), hs_o (by decide)]; exact ew, fun e he => ?_, eX, fun x a b => by rw [hs_O a, hs_O b]; exact fr x a b, fun q a => by rw [hs_k a, hs_o (by decide)]; exact fr2 q a⟩
                       have o3 := op e (by omega)
                       rw [hs_o (by decide), hs_o (by decide), hs_o (by decide), hs_o (by decide), hs_o (by decide), hs_k (by omega), ut9_o (by omega)]
                       exact o3)
set_option maxRecDepth 20000 in
set_option maxHeartbeats 1000000 in
theorem r_run_lp (l : Launch) (h T : jH) (SD : List Int) (ns : Nat) (R : Nat → Int) (D : Nat → Nat) (S : Nat → Nat → Nat) (wf : WF9 D S T ns SD) (ct : RTb h T SD ns) (e5 : h 390 5 = R 5) (r50 : 0 ≤ R 5) (r51 : R 5 ≤ 64) (X : rST) (fin : X.2.2 ≠ 0 ∨ ns ≤ X.1.1.1) (P : Option Value → jH → Prop) (hP0 : ∀ mem, X.2.2 = 0 → OGR mem X.2.1.1 X.2.1.2 → mem 388 73 = 0 → mem 388 74 = -1 → FRv h mem → P none mem) (hP1 : ∀ mem, X.2.2 ≠ 0 → mem 388 73 = X.2.2 → mem 388 74 = (X.1.1.1 : Int) → FRv h mem → P none mem) : ∀ (m : Nat) (k d n : Nat) (OP TU : Nat → Int) (g mem : jH), (RI9 D S ns R (((k, d), OP, TU), (g, n), 0) ∧ mem 388 72 = (d : Int) ∧ (∀ e, e < d → mem 426 e = OP e ∧ mem 427 e = TU e) ∧ OGR mem g n ∧ mem 388 73 = 0 ∧ mem 388 74 = -1 ∧ FRv h mem ∧ rit T SD (R 5) ns m (((k, d), OP, TU), (g, n), 0) = X) → jT l 331 7 [some (.ref 388), some (.int (jI ((k : Int))))] [] mem P := by
  have rng9 := wf.2.2.2.2.1
  have n24 := wf.2.2.1
  intro m
  induction m with
  | zero =>
    intro k d n OP TU g mem hi
    obtain ⟨ri, ed, e1, og, ew, e74, fr, eX⟩ := hi
    rw [rit] at eX
    have lp : LP9 D S ns k d OP TU := ri.1
    have nk : ns ≤ k := by rw [← eX] at fin; rcases fin with q | q; exact absurd rfl q; exact q
    have d0 := lp.e0 wf nk
    have k1 := lp.1
    exact r_s7 l mem k ns d 0 (by omega) n24 (by omega) (ct.of fr).1 ed ew (by decide) (Or.inr ⟨nk, d0⟩) P (hP0 mem (by rw [← eX]) (by rw [← eX]; exact og) ew e74 fr)
  | succ m ih =>
    intro k d n OP TU g mem hi
    obtain ⟨ri, ed, e1, og, ew, e74, fr, eX⟩ := hi
    have lp : LP9 D S ns k d OP TU := ri.1
    have n64 : n ≤ 64 := ri.2.1
    have k1 := lp.1
    have d4 := lp.d4 wf
    have ctm := ct.of fr
    have en := ctm.1
    by_cases nk : ns ≤ k
    · have d0 := lp.e0 wf nk
      rw [rit_s (Or.inr nk)] at eX
      exact r_s7 l mem k ns d 0 (by omega) n24 (by omega) en ed ew (by decide) (Or.inr ⟨nk, d0⟩) P (hP0 mem (by rw [← eX]) (by rw [← eX]; exact og) ew e74 fr)
    · have kn : k < ns := by omega
      rw [rit] at eX
      have tb := ctm.2.2.1 k kn
      have rgk := rng9 k kn
      have r0 := rgk.1
      have op : OPR T mem d OP TU := lp.opr wf ctm e1
      have h115 : jT l 331 115 [some (.ref 388), some (.int (jI ((k : Int))))] [] mem P := by
        refine tl_aload_n rfl rfl ?_
        refine tl_getr (c := 12) (k9 := 63) (b := 420) rfl rfl rfl rfl ?_
        refine tl_iload_n rfl rfl ?_
        refine tl_iald (n := 24) rfl rfl rfl (by omega) (by omega) ?_
        rw [Int.toNat_natCast, tb.1]
        refine tl_iconst rfl ?_
        refine tl_icmp_ne (tgt := 166) rfl rfl ⟨by omega, by omega⟩ ⟨by omega, by omega⟩ (fun c1 => ?_) (fun c1 => ?_)
        · skip
          have c4 : T 0 k ≠ 4 := by omega
          show jT _ _ 166 _ _ _ _
          refine tl_aload_n rfl rfl ?_
          refine tl_iload_n rfl rfl ?_
          refine tl_v1v (c9 := 12) (r_runStep l mem T SD ns k n g ctm kn c4 (rng9 k kn) n64 og (R 5) (by rw [fr.1 390 (by decide) (by decide) (by decide) (by decide) (by decide)]; exact e5) r50 r51) rfl rfl rfl rfl rfl (Nat.le_of_ble_eq_true rfl) (fun h1 p1 => ?_)
          obtain ⟨w73, w74, og1, f1, f1b⟩ := p1
          have fr1 : FRv mem h1 := ⟨fun x a b c _ _ => f1 x a b c, fun q a _ b c => f1b q a b c⟩
          have wc := wh9_c (T := T) (R5 := R 5) (k := k) (n := n)
          have ed1 : h1 388 72 = (d : Int) := by rw [f1b 72 (by decide) (by decide) (by decide)]; exact ed
          have ct1 := ctm.of fr1
          refine tl_iinc rfl rfl rfl ?_
          refine tl_goto (tgt := 7) rfl rfl ?_
          show jT _ _ 7 _ _ _ _
          -- leaf 0 at 7
          by_cases cw : wh9 T (R 5) k n = 0
          rotate_left
          · rw [rz_w kn c4 cw, rit_s (Or.inl cw)] at eX
            rw [if_neg cw] at w74
            have s7 := r_s7 l h1 (k + 1) ns d (wh9 T (R 5) k n) (by omega) n24 (by omega) ct1.1 ed1 w73 (by omega) (Or.inl cw) P (hP1 h1 (by rw [← eX]; exact cw) (by rw [← eX]; exact w73) (by rw [← eX]; exact w74) (fr.trans fr1))
            rw [show ((k + 1 : Nat) : Int) = (k : Int) + 1 by omega] at s7
            exact s7
          rw [rz_g kn c4 cw] at eX
          have ri2 := (rz_i (R := R) (SD := SD) wf ri).1
          rw [rz_g kn c4 cw] at ri2
          rw [if_pos cw] at w74
          rw [cw] at w73
          have opr1 : OPR T h1 d OP TU := lp.opr wf ct1 (fun e he => by rw [f1 426 (by decide) (by decide) (by decide), f1 427 (by decide) (by decide) (by decide)]; exact e1 e he)
          have cx : ∀ m2, (m2 388 72 = ((cl9 T d (k + 1) OP TU).2.1 : Int) ∧ (∀ e, e < (cl9 T d (k + 1) OP TU).2.1 → m2 427 e = (cl9 T d (k + 1) OP TU).2.2 e) ∧ ((∀ x, x ≠ 388 → x ≠ 427 → m2 x = h1 x) ∧ ∀ q, q ≠ 72 → m2 388 q = h1 388 q)) → jT l 331 7 [some (.ref 388), some (.int (jI (((cl9 T d (k + 1) OP TU).1 : Int))))] [] m2 P := by
            intro m2 q2
            obtain ⟨ed2, tu2, f2, f2b⟩ := q2
            have dd := cl9_le T d (k + 1) OP TU
            have fr2 : FRv h1 m2 := ⟨fun x a _ _ _ b => f2 x a b, fun q _ a _ _ => f2b q a⟩
            exact ih (cl9 T d (k + 1) OP TU).1 (cl9 T d (k + 1) OP TU).2.1 (n + (T 1 k).toNat) OP (cl9 T d (k + 1) OP TU).2.2 (gA T SD k g n (T 1 k).toNat) m2 ⟨ri2, ed2, fun e he => ⟨by rw [f2 426 (by decide) (by decide), f1 426 (by decide) (by decide) (by decide)]; exact (e1 e (by omega)).1, tu2 e he⟩, ⟨by rw [f2b 25 (by decide)]; exact (og1 cw).1, fun i hi => by rw [f2 403 (by decide) (by decide), f2 404 (by decide) (by decide)]; exact (og1 cw).2 i hi⟩, by rw [f2b 73 (by decide)]; exact w73, by rw [f2b 74 (by decide)]; exact w74, (fr.trans fr1).trans fr2, eX⟩
          have cl := r_close l h1 T ns (k + 1) (by omega) n24 OP (cl9 T d (k + 1) OP TU) P cx (d + 1) d TU h1 (by omega) ⟨by omega, ct1.1, ed1, w73, opr1, rfl, fun _ _ _ => rfl, fun _ _ => rfl⟩
          rw [show ((k + 1 : Nat) : Int) = (k : Int) + 1 by omega] at cl
          exact cl
        · show jT _ _ 125 _ _ _ _
          have d3 := (lp.t wf kn (show T 0 k = 4 by omega)).1
          refine tl_aload_n rfl rfl ?_
          refine tl_getr (c := 12) (k9 := 70) (b := 426) rfl rfl rfl rfl ?_
          show jT _ _ 129 _ _ _ _
          refine tl_aload_n rfl rfl ?_
          refine tl_geti (c := 12) (k9 := 72) rfl rfl rfl ?_
          rw [ed]
          refine tl_iload_n rfl rfl ?_
          refine tl_iast (n := 5) rfl rfl rfl (by omega) (by omega) ?_
          rw [Int.toNat_natCast]
          refine tl_aload_n rfl rfl ?_
          refine tl_getr (c := 12) (k9 := 71) (b := 427) rfl rfl rfl rfl ?_
          refine tl_aload_n rfl rfl ?_
          show jT _ _ 140 _ _ _ _
          refine tl_geti (c := 12) (k9 := 72) rfl rfl rfl ?_
          rw [hs_o (by decide), ed]
          refine tl_aload_n rfl rfl ?_
          refine tl_getr (c := 12) (k9 := 64) (b := 421) rfl rfl rfl rfl ?_
          refine tl_iload_n rfl rfl ?_
          refine tl_iald (n := 24) rfl rfl rfl (by omega) (by omega) ?_
          rw [Int.toNat_natCast, hs_o (by decide), tb.2.1 (by omega)]
          refine tl_iast (n := 5) rfl rfl rfl (by omega) (by omega) ?_
          rw [Int.toNat_natCast]
          refine tl_aload_n rfl rfl ?_
          show jT _ _ 151 _ _ _ _
          refine tl_dup rfl rfl ?_
          refine tl_geti (c := 12) (k9 := 72) rfl rfl rfl ?_
          rw [hs_o (by decide), hs_o (by decide), ed]
          refine tl_iconst rfl ?_
          refine tl_iadd rfl ?_
          refine tl_puti (c := 12) (k9 := 72) rfl rfl rfl rfl ?_
          refine tl_iinc rfl rfl rfl ?_
          refine tl_goto (tgt := 7) rfl rfl ?_
          show jT _ _ 7 _ _ _ _
          -- leaf 1 at 7
          have c4 : T 0 k = 4 := by omega
          have t := lp.t wf kn c4
          rw [rz_4 kn c4] at eX
          have ri2 := (rz_i (R := R) (SD := SD) wf ri).1
          rw [rz_4 kn c4] at ri2
          have frT : FRv mem (hs (hs (hs mem 426 d (k : Int)) 427 d (T 1 k)) 388 72 ((d : Int) + 1)) := ⟨fun x a _ _ b c => by rw [hs_O a, hs_O c, hs_O b], fun q _ a _ _ => by rw [hs_k a, hs_o (by decide), hs_o (by decide)]⟩
          refine jT.loc ?_ (ih (k + 1) (d + 1) n (ut9 OP d (k : Int)) (ut9 TU d (T 1 k)) g _ ⟨ri2, by rw [hs_s]; omega, fun e he => ?_, ⟨by rw [hs_k (by decide), hs_o (by decide), hs_o (by decide)]; exact og.1, fun i hi => by rw [hs_o (by decide), hs_o (by decide), hs_o (by decide), hs_o (by decide), hs_o (by decide), hs_o (by decide)]; exact og.2 i hi⟩, by rw [hs_k (by decide), hs_o (by decide), hs_o (by decide)]; exact ew, by rw [hs_k (by decide), hs_o (by decide), hs_o (by decide)]; exact e74, fr.trans frT, eX⟩)
          · rw [show ((k + 1 : Nat) : Int) = (k : Int) + 1 by omega]; rfl
          · by_cases ee : e = d
            · subst ee; rw [hs_o (by decide), hs_o (by decide), hs_s, hs_o (by decide), hs_s, ut9_s, ut9_s]; exact ⟨rfl, rfl⟩
            · rw [hs_o (by decide), hs_o (by decide), hs_k ee, hs_o (by decide), hs_k ee, hs_o (by decide), ut9_o ee, ut9_o ee]; exact e1 e (by omega)
      refine tl_iload_n rfl rfl ?_
      refine tl_aload_n rfl rfl ?_
      refine tl_geti (c := 12) (k9 := 62) rfl rfl rfl ?_
      rw [en]
      refine tl_icmp_lt (tgt := 22) rfl rfl ⟨by omega, by omega⟩ ⟨by omega, by omega⟩ (fun c1 => ?_) (fun c1 => ?_)
      · skip
        refine tl_aload_n rfl rfl ?_
        refine tl_geti (c := 12) (k9 := 73) rfl rfl rfl ?_
        rw [ew]
        show jT _ _ 26 _ _ _ _
        refine tl_if_ne (tgt := 177) rfl rfl ⟨by omega, by omega⟩ (fun c2 => ?_) (fun c2 => ?_)
        · skip
          exfalso; omega
        · show jT _ _ 29 _ _ _ _
          refine tl_aload_n rfl rfl ?_
          refine tl_geti (c := 12) (k9 := 72) rfl rfl rfl ?_
          rw [ed]
          refine tl_if_le (tgt := 115) rfl rfl ⟨by omega, by omega⟩ (fun c3 => ?_) (fun c3 => ?_)
          · skip
            show jT _ _ 115 _ _ _ _
            -- leaf 0 at 115
            exact h115
          · show jT _ _ 36 _ _ _ _
            have o1 := op (d - 1) (by omega)
            have al := lp.al wf (e := d - 1) (by omega)
            refine tl_iload_n rfl rfl ?_
            refine tl_aload_n rfl rfl ?_
            refine tl_getr (c := 12) (k9 := 67) (b := 424) rfl rfl rfl rfl ?_
            show jT _ _ 41 _ _ _ _
            refine tl_aload_n rfl rfl ?_
            refine tl_getr (c := 12) (k9 := 70) (b := 426) rfl rfl rfl rfl ?_
            refine tl_aload_n rfl rfl ?_
            refine tl_geti (c := 12) (k9 := 72) rfl rfl rfl ?_
            rw [ed]
            refine tl_iconst rfl ?_
            refine tl_isub rfl ?_
            refine tl_iald (n := 5) rfl rfl rfl (by omega) (by omega) ?_
            rw [show ((d : Int) - 1).toNat = d - 1 by omega, (op (d - 1) (by omega)).1]
            show jT _ _ 52 _ _ _ _
            refine tl_iald (n := 24) rfl rfl rfl (by omega) (by omega) ?_
            rw [(op (d - 1) (by omega)).2.2.2.1]
            refine tl_icmp_ne (tgt := 115) rfl rfl ⟨by omega, by omega⟩ ⟨by omega, by omega⟩ (fun c4 => ?_) (fun c4 => ?_)
            · skip
              show jT _ _ 115 _ _ _ _
              -- leaf 1 at 115
              exact h115
            · show jT _ _ 56 _ _ _ _
              exfalso; omega
      · show jT _ _ 15 _ _ _ _
        exfalso; omega
set_option maxRecDepth 20000 in
set_option maxHeartbeats 1000000 in
theorem r_runSteps (l : Launch) (h T : jH) (SD : List Int) (ns : Nat) (R : Nat → Int) (D : Nat → Nat) (S : Nat → Nat → Nat) (wf : WF9 D S T ns SD) (ct : RTb h T SD ns) (e5 : h 390 5 = R 5) (r50 : 0 ≤ R 5) (r51 : R 5 ≤ 64) (e25 : h 388 25 = 0) (e73 : h 388 73 = 0) (e74 : h 388 74 = -1) : cV l 331 [.ref 388] h (fun h' => h' 388 73 = (rX T SD (R 5) ns).2.2 ∧ ((rX T SD (R 5) ns).2.2 = 0 → OGR h' (rX T SD (R 5) ns).2.1.1 (rX T SD (R 5) ns).2.1.2 ∧ h' 388 74 = -1) ∧ ((rX T SD (R 5) ns).2.2 ≠ 0 → h' 388 74 = ((rX T SD (R 5) ns).1.1.1 : Int)) ∧ FRv h h') := by
  have rx := rX_i (R := R) (SD := SD) wf
  refine cV.of rfl rfl ?_
  refine tl_iconst rfl ?_
  refine tl_istore_n rfl (Nat.le_of_ble_eq_true rfl) rfl ?_
  refine tl_aload_n rfl rfl ?_
  refine tl_iconst rfl ?_
  refine tl_puti (c := 12) (k9 := 72) rfl rfl rfl rfl ?_
  show jT _ _ 7 _ _ _ _
  -- leaf 0 at 7
  have f0 : FRv h (hs h 388 72 0) := ⟨fun x a _ _ _ _ => hs_O a, fun q _ a _ _ => hs_k a⟩
  exact r_run_lp l h T SD ns R D S wf ct e5 r50 r51 (rX T SD (R 5) ns) rx.2 _ (fun mem z0 og w1 w2 fr => ⟨rfl, by rw [w1, z0], fun _ => ⟨og, w2⟩, fun q => absurd z0 q, fr⟩) (fun mem zn w1 w2 fr => ⟨rfl, w1, fun q => absurd q zn, fun _ => w2, fr⟩) 10000 0 0 0 (fun _ => 0) (fun _ => 0) (fun _ _ => 0) _ ⟨⟨⟨Nat.zero_le _, wf.1.symm, fun e he => absurd he (Nat.not_lt_zero _)⟩, Nat.zero_le _, fun i hi => absurd hi (Nat.not_lt_zero _), by show (-5 : Int) ≤ 0; decide, by show (0 : Int) ≤ 0; decide⟩, by rw [hs_s]; rfl, fun e he => absurd he (Nat.not_lt_zero _), ⟨by rw [hs_k (by decide)]; exact e25, fun i hi => absurd hi (Nat.not_lt_zero _)⟩, by rw [hs_k (by decide)]; exact e73, by rw [hs_k (by decide)]; exact e74, f0, rfl⟩
