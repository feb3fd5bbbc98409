/-! a patch read: its parts, of the walked file -/
/-- the parts lie in the reader's rows -/
def PTK (h : jH) (S : jH) (n : Nat) : Prop := ∀ q, q < n → h 340 q = S 1 q ∧ h 341 q = S 2 q ∧ h 342 q = S 3 q ∧ h 343 q = S 4 q
theorem PTK.of {h h' S : jH} {n : Nat} (k : PTK h S n) (e : ∀ x, 340 ≤ x → x ≤ 343 → h' x = h x) : PTK h' S n := fun q hq => by rw [e 340 (by omega) (by omega), e 341 (by omega) (by omega), e 342 (by omega) (by omega), e 343 (by omega) (by omega)]; exact k q hq
set_option maxRecDepth 20000 in
set_option maxHeartbeats 1000000 in
theorem k_pfl_lp (l : Launch) (h : jH) (B : Nat → Int) (N p0 np : Nat) (os ns : Int) (hB : BB B N) (hp : p0 ≤ N) (n298 : N ≤ 298) (o0 : 0 ≤ os ∧ os ≤ 64) (n0 : 0 ≤ ns ∧ ns ≤ 64) (np0 : np ≤ 16383) (P : Option Value → jH → Prop) (hP : ∀ z mem, (z = ptF B N os ns p0 np ∧ (ptF B N os ns p0 np = 0 → RDK mem B N ((ptS B N os ns p0 np) 0 1).toNat ∧ mem 339 15 = (ptS B N os ns p0 np) 0 4 ∧ PTK mem (ptS B N os ns p0 np) np) ∧ (∀ x, (x < 339 ∨ 343 < x) → mem x = h x) ∧ ∀ q, q ≠ 15 → q ≠ 16 → mem 339 q = h 339 q) → P (some (.int (jI z))) mem) : ∀ (m : Nat) (k : Nat) (mem : jH) (y4 : Option Value) (y5 : Option Value) (y6 : Option Value) (y7 : Option Value), np - k < m → (k ≤ np ∧ (ptS B N os ns p0 k) 0 0 = 0 ∧ (RDK mem B N ((ptS B N os ns p0 k) 0 1).toNat ∧ mem 339 15 = (ptS B N os ns p0 k) 0 4) ∧ PTK mem (ptS B N os ns p0 k) k ∧ (mem 339 0 = os ∧ mem 339 2 = ns ∧ mem 339 4 = (np : Int)) ∧ (∀ x, (x < 339 ∨ 343 < x) → mem x = h x) ∧ ∀ q, q ≠ 15 → q ≠ 16 → mem 339 q = h 339 q) → jT l 71 11 [some (.ref 339), some (.int (jI ((ptS B N os ns p0 k) 0 2))), some (.int (jI ((ptS B N os ns p0 k) 0 3))), some (.int (jI ((k : Int)))), y4, y5, y6, y7] [] mem P := by
  intro m
  induction m with
  | zero => intro k mem y4 y5 y6 y7 hk; omega
  | succ m ih =>
    intro k mem y4 y5 y6 y7 hk hi
    obtain ⟨i0, i1, ⟨i2, i3⟩, i4, ⟨i5, i6, i7⟩, fr⟩ := hi
    have I := ptS_I hB hp o0.1 n0.1 k i1
    obtain ⟨⟨a1, a2⟩, a3, a4, a5, a6, a7, a8⟩ := I
    clear a6 a7 a8
    obtain ⟨b1, b2, b3, b4⟩ := rn_b (p := ((ptS B N os ns p0 k) 0 1).toNat) hB (by omega)
    obtain ⟨d1, d2, d3, d4⟩ := rn_b hB b3
    obtain ⟨g1, g2, g3, g4⟩ := rn_b hB d3
    change -1 ≤ (pA B N ((ptS B N os ns p0 k) 0 1).toNat).1 ∧ (pA B N ((ptS B N os ns p0 k) 0 1).toNat).1 ≤ 16383 at b1
    change -1 ≤ (pB B N ((ptS B N os ns p0 k) 0 1).toNat).1 ∧ (pB B N ((ptS B N os ns p0 k) 0 1).toNat).1 ≤ 16383 at d1
    change -1 ≤ (pC B N ((ptS B N os ns p0 k) 0 1).toNat).1 ∧ (pC B N ((ptS B N os ns p0 k) 0 1).toNat).1 ≤ 16383 at g1
    clear b4 d4 g4 b2 d2 g2 b3 d3 g3
    have sk : (pA B N ((ptS B N os ns p0 k) 0 1).toNat).1 % 2 = 0 ∧ sk9 (pA B N ((ptS B N os ns p0 k) 0 1).toNat).1 = (pA B N ((ptS B N os ns p0 k) 0 1).toNat).1 / 2 ∨ (pA B N ((ptS B N os ns p0 k) 0 1).toNat).1 % 2 ≠ 0 ∧ sk9 (pA B N ((ptS B N os ns p0 k) 0 1).toNat).1 = -(((pA B N ((ptS B N os ns p0 k) 0 1).toNat).1 + 1) / 2) := by
      by_cases z : (pA B N ((ptS B N os ns p0 k) 0 1).toNat).1 % 2 = 0
      · exact Or.inl ⟨z, by rw [sk9, if_pos z]⟩
      · exact Or.inr ⟨z, by rw [sk9, if_neg z]⟩
    refine tl_iload_n rfl rfl ?_
    refine tl_aload_n rfl rfl ?_
    refine tl_geti (c := 6) (k9 := 4) rfl rfl rfl ?_
    rw [i7]
    refine tl_icmp_ge (tgt := 176) rfl rfl ⟨by omega, by omega⟩ ⟨by omega, by omega⟩ (fun c1 => ?_) (fun c1 => ?_)
    · skip
      refine tl_iload_n rfl rfl ?_
      refine tl_aload_n rfl rfl ?_
      show jT _ _ 178 _ _ _ _
      refine tl_geti (c := 6) (k9 := 2) rfl rfl rfl ?_
      rw [i6]
      refine tl_icmp_ge (tgt := 188) rfl rfl ⟨by omega, by omega⟩ ⟨by omega, by omega⟩ (fun c2 => ?_) (fun c2 => ?_)
      · skip
        refine tl_iconst rfl ?_
        refine tl_iret rfl ?_
        -- leaf 0 at 189
        have e : np = k := by omega
        subst e
        refine hP _ _ ⟨?_, fun hz => ⟨i2, i3, i4⟩, fr⟩
        rw [ptF, if_pos i1]
        first | rw [if_pos (by omega)] | rw [if_neg (by omega)]
      · show jT _ _ 184 _ _ _ _
        refine tl_iconst rfl ?_
        refine tl_goto (tgt := 189) rfl rfl ?_
        refine tl_iret rfl ?_
        -- leaf 1 at 189
        have e : np = k := by omega
        subst e
        refine hP _ _ ⟨?_, fun hz => ⟨i2, i3, i4⟩, fr⟩
        rw [ptF, if_pos i1]
        first | rw [if_pos (by omega)] | rw [if_neg (by omega)]
    · show jT _ _ 19 _ _ _ _
      show jT _ _ 19 _ _ _ _
      refine tl_aload_n rfl rfl ?_
      refine tl_v0i (c9 := 6) (k_nextNum l mem B N ((ptS B N os ns p0 k) 0 1).toNat i2) rfl rfl rfl rfl rfl (Nat.le_of_ble_eq_true rfl) (fun z1 h1 p1 => ?_)
      obtain ⟨e1, k1, f1⟩ := p1
      have d1 : z1 = (pA B N ((ptS B N os ns p0 k) 0 1).toNat).1 := e1
      clear e1
      subst d1
      refine tl_istore rfl (Nat.le_of_ble_eq_true rfl) rfl ?_
      refine tl_aload_n rfl rfl ?_
      refine tl_v0i (c9 := 6) (k_nextNum l h1 B N (pA B N ((ptS B N os ns p0 k) 0 1).toNat).2 k1) rfl rfl rfl rfl rfl (Nat.le_of_ble_eq_true rfl) (fun z2 h2 p2 => ?_)
      obtain ⟨e2, k2, f2⟩ := p2
      have d2 : z2 = (pB B N ((ptS B N os ns p0 k) 0 1).toNat).1 := e2
      clear e2
      subst d2
      refine tl_istore rfl (Nat.le_of_ble_eq_true rfl) rfl ?_
      refine tl_aload_n rfl rfl ?_
      show jT _ _ 32 _ _ _ _
      refine tl_v0i (c9 := 6) (k_nextNum l h2 B N (pB B N ((ptS B N os ns p0 k) 0 1).toNat).2 k2) rfl rfl rfl rfl rfl (Nat.le_of_ble_eq_true rfl) (fun z3 h3 p3 => ?_)
      obtain ⟨e3, k3, f3⟩ := p3
      have d3 : z3 = (pC B N ((ptS B N os ns p0 k) 0 1).toNat).1 := e3
      clear e3
      subst d3
      refine tl_istore rfl (Nat.le_of_ble_eq_true rfl) rfl ?_
      refine tl_iload rfl rfl ?_
      refine tl_if_lt (tgt := 58) rfl rfl ⟨by omega, by omega⟩ (fun c3 => ?_) (fun c3 => ?_)
      · skip
        refine tl_iconst rfl ?_
        refine tl_iret rfl ?_
        -- leaf 2 at 59
        first
          | (exfalso; omega)
          | (have ep : ptS B N os ns p0 (k + 1) = hs (ptS B N os ns p0 k) 0 0 3 := by rw [ptS, if_pos i1, pt1_a (by omega)]
             have e0 : ptS B N os ns p0 (k + 1) 0 0 = 3 := by rw [ep, hs_s]
             have en : ptS B N os ns p0 np = ptS B N os ns p0 (k + 1) := by have := ptS_st (k + 1 |> fun _ => (by rw [e0]; decide : ptS B N os ns p0 (k + 1) 0 0 ≠ 0)) (np - (k + 1)); rwa [show k + 1 + (np - (k + 1)) = np by omega] at this
             have ef : ptF B N os ns p0 np = 3 := by rw [ptF, en, e0, if_neg (by decide)]
             refine hP _ _ ⟨ef.symm, fun hz => by rw [ef] at hz; exact absurd hz (by decide), fun x hx => by rw [f3.1 x (by omega), f2.1 x (by omega), f1.1 x (by omega)]; exact fr.1 x hx, fun q hq hq2 => by rw [f3.2 q hq2, f2.2 q hq2, f1.2 q hq2]; exact fr.2 q hq hq2⟩)
      · show jT _ _ 42 _ _ _ _
        refine tl_iload rfl rfl ?_
        show jT _ _ 44 _ _ _ _
        refine tl_if_lt (tgt := 58) rfl rfl ⟨by omega, by omega⟩ (fun c4 => ?_) (fun c4 => ?_)
        · skip
          refine tl_iconst rfl ?_
          refine tl_iret rfl ?_
          -- leaf 3 at 59
          first
            | (exfalso; omega)
            | (have ep : ptS B N os ns p0 (k + 1) = hs (ptS B N os ns p0 k) 0 0 3 := by rw [ptS, if_pos i1, pt1_a (by omega)]
               have e0 : ptS B N os ns p0 (k + 1) 0 0 = 3 := by rw [ep, hs_s]
               have en : ptS B N os ns p0 np = ptS B N os ns p0 (k + 1) := by have := ptS_st (k + 1 |> fun _ => (by rw [e0]; decide : ptS B N os ns p0 (k + 1) 0 0 ≠ 0)) (np - (k + 1)); rwa [show k + 1 + (np - (k + 1)) = np by omega] at this
               have ef : ptF B N os ns p0 np = 3 := by rw [ptF, en, e0, if_neg (by decide)]
               refine hP _ _ ⟨ef.symm, fun hz => by rw [ef] at hz; exact absurd hz (by decide), fun x hx => by rw [f3.1 x (by omega), f2.1 x (by omega), f1.1 x (by omega)]; exact fr.1 x hx, fun q hq hq2 => by rw [f3.2 q hq2, f2.2 q hq2, f1.2 q hq2]; exact fr.2 q hq hq2⟩)
        · show jT _ _ 47 _ _ _ _
          refine tl_iload rfl rfl ?_
          refine tl_if_lt (tgt := 58) rfl rfl ⟨by omega, by omega⟩ (fun c5 => ?_) (fun c5 => ?_)
          · skip
            refine tl_iconst rfl ?_
            refine tl_iret rfl ?_
            -- leaf 4 at 59
            first
              | (exfalso; omega)
              | (have ep : ptS B N os ns p0 (k + 1) = hs (ptS B N os ns p0 k) 0 0 3 := by rw [ptS, if_pos i1, pt1_a (by omega)]
                 have e0 : ptS B N os ns p0 (k + 1) 0 0 = 3 := by rw [ep, hs_s]
                 have en : ptS B N os ns p0 np = ptS B N os ns p0 (k + 1) := by have := ptS_st (k + 1 |> fun _ => (by rw [e0]; decide : ptS B N os ns p0 (k + 1) 0 0 ≠ 0)) (np - (k + 1)); rwa [show k + 1 + (np - (k + 1)) = np by omega] at this
                 have ef : ptF B N os ns p0 np = 3 := by rw [ptF, en, e0, if_neg (by decide)]
                 refine hP _ _ ⟨ef.symm, fun hz => by rw [ef] at hz; exact absurd hz (by decide), fun x hx => by rw [f3.1 x (by omega), f2.1 x (by omega), f1.1 x (by omega)]; exact fr.1 x hx, fun q hq hq2 => by rw [f3.2 q hq2, f2.2 q hq2, f1.2 q hq2]; exact fr.2 q hq hq2⟩)
          · show jT _ _ 52 _ _ _ _
            show jT _ _ 52 _ _ _ _
            refine tl_iload_n rfl rfl ?_
            refine tl_bipush rfl rfl ?_
            refine tl_icmp_lt (tgt := 60) rfl rfl ⟨by omega, by omega⟩ ⟨by omega, by omega⟩ (fun c6 => ?_) (fun c6 => ?_)
            · skip
              refine tl_iload_n rfl rfl ?_
              refine tl_iload rfl rfl ?_
              refine tl_iconst rfl ?_
              refine tl_irem rfl (by omega) (by omega) (by omega) (by omega) ?_
              show jT _ _ 65 _ _ _ _
              refine tl_if_ne (tgt := 75) rfl rfl ⟨by omega, by omega⟩ (fun c7 => ?_) (fun c7 => ?_)
              · skip
                refine tl_iload rfl rfl ?_
                refine tl_iconst rfl ?_
                refine tl_iadd rfl ?_
                refine tl_ineg rfl ?_
                refine tl_iconst rfl ?_
                refine tl_idivN rfl (by omega) (by omega) (by omega) (by omega) ?_
                show jT _ _ 82 _ _ _ _
                refine tl_iadd rfl ?_
                show jT _ _ 83 _ _ _ _
                -- leaf 5 at 83
                first | rw [show (ptS B N os ns p0 k) 0 2 + (pA B N ((ptS B N os ns p0 k) 0 1).toNat).1 / 2 = ((ptS B N os ns p0 k) 0 2 + sk9 (pA B N ((ptS B N os ns p0 k) 0 1).toNat).1) by omega] | rw [show (ptS B N os ns p0 k) 0 2 + -(((pA B N ((ptS B N os ns p0 k) 0 1).toNat).1 + 1) / 2) = ((ptS B N os ns p0 k) 0 2 + sk9 (pA B N ((ptS B N os ns p0 k) 0 1).toNat).1) by omega]
                refine tl_istore rfl (Nat.le_of_ble_eq_true rfl) rfl ?_
                refine tl_iload rfl rfl ?_
                refine tl_iload rfl rfl ?_
                refine tl_iadd rfl ?_
                refine tl_istore_n rfl (Nat.le_of_ble_eq_true rfl) rfl ?_
                refine tl_iload rfl rfl ?_
                show jT _ _ 93 _ _ _ _
                refine tl_if_lt (tgt := 118) rfl rfl ⟨by omega, by omega⟩ (fun c1 => ?_) (fun c1 => ?_)
                · skip
                  refine tl_iconst rfl ?_
                  refine tl_iret rfl ?_
                  -- leaf 0 at 119
                  first
                    | (exfalso; omega)
                    | (have ep : ptS B N os ns p0 (k + 1) = hs (ptS B N os ns p0 k) 0 0 5 := by rw [ptS, if_pos i1, pt1_b (by omega) (by omega)]
                       have e0 : ptS B N os ns p0 (k + 1) 0 0 = 5 := by rw [ep, hs_s]
                       have en : ptS B N os ns p0 np = ptS B N os ns p0 (k + 1) := by have := ptS_st (k + 1 |> fun _ => (by rw [e0]; decide : ptS B N os ns p0 (k + 1) 0 0 ≠ 0)) (np - (k + 1)); rwa [show k + 1 + (np - (k + 1)) = np by omega] at this
                       have ef : ptF B N os ns p0 np = 5 := by rw [ptF, en, e0, if_neg (by decide)]
                       refine hP _ _ ⟨ef.symm, fun hz => by rw [ef] at hz; exact absurd hz (by decide), fun x hx => by rw [f3.1 x (by omega), f2.1 x (by omega), f1.1 x (by omega)]; exact fr.1 x hx, fun q hq hq2 => by rw [f3.2 q hq2, f2.2 q hq2, f1.2 q hq2]; exact fr.2 q hq hq2⟩)
                · show jT _ _ 96 _ _ _ _
                  refine tl_iload_n rfl rfl ?_
                  refine tl_aload_n rfl rfl ?_
                  refine tl_geti (c := 6) (k9 := 0) rfl rfl rfl ?_
                  rw [f3.2 0 (by decide), f2.2 0 (by decide), f1.2 0 (by decide), i5]
                  refine tl_icmp_gt (tgt := 118) rfl rfl ⟨by omega, by omega⟩ ⟨by omega, by omega⟩ (fun c2 => ?_) (fun c2 => ?_)
                  · skip
                    show jT _ _ 118 _ _ _ _
                    refine tl_iconst rfl ?_
                    refine tl_iret rfl ?_
                    -- leaf 1 at 119
                    first
                      | (exfalso; omega)
                      | (have ep : ptS B N os ns p0 (k + 1) = hs (ptS B N os ns p0 k) 0 0 5 := by rw [ptS, if_pos i1, pt1_b (by omega) (by omega)]
                         have e0 : ptS B N os ns p0 (k + 1) 0 0 = 5 := by rw [ep, hs_s]
                         have en : ptS B N os ns p0 np = ptS B N os ns p0 (k + 1) := by have := ptS_st (k + 1 |> fun _ => (by rw [e0]; decide : ptS B N os ns p0 (k + 1) 0 0 ≠ 0)) (np - (k + 1)); rwa [show k + 1 + (np - (k + 1)) = np by omega] at this
                         have ef : ptF B N os ns p0 np = 5 := by rw [ptF, en, e0, if_neg (by decide)]
                         refine hP _ _ ⟨ef.symm, fun hz => by rw [ef] at hz; exact absurd hz (by decide), fun x hx => by rw [f3.1 x (by omega), f2.1 x (by omega), f1.1 x (by omega)]; exact fr.1 x hx, fun q hq hq2 => by rw [f3.2 q hq2, f2.2 q hq2, f1.2 q hq2]; exact fr.2 q hq hq2⟩)
                  · show jT _ _ 104 _ _ _ _
                    refine tl_iload rfl rfl ?_
                    refine tl_iload rfl rfl ?_
                    refine tl_iadd rfl ?_
                    refine tl_aload_n rfl rfl ?_
                    refine tl_geti (c := 6) (k9 := 2) rfl rfl rfl ?_
                    rw [f3.2 2 (by decide), f2.2 2 (by decide), f1.2 2 (by decide), i6]
                    show jT _ _ 113 _ _ _ _
                    refine tl_iload_n rfl rfl ?_
                    refine tl_isub rfl ?_
                    refine tl_icmp_le (tgt := 120) rfl rfl ⟨by omega, by omega⟩ ⟨by omega, by omega⟩ (fun c3 => ?_) (fun c3 => ?_)
                    · skip
                      refine tl_aload_n rfl rfl ?_
                      refine tl_getr (c := 6) (k9 := 5) (b := 340) rfl rfl rfl rfl ?_
                      refine tl_iload_n rfl rfl ?_
                      refine tl_iload rfl rfl ?_
                      show jT _ _ 127 _ _ _ _
                      refine tl_iast (n := 100) rfl rfl rfl (by omega) (by omega) ?_
                      refine tl_aload_n rfl rfl ?_
                      refine tl_getr (c := 6) (k9 := 6) (b := 341) rfl rfl rfl rfl ?_
                      refine tl_iload_n rfl rfl ?_
                      refine tl_iload rfl rfl ?_
                      refine tl_iast (n := 100) rfl rfl rfl (by omega) (by omega) ?_
                      refine tl_aload_n rfl rfl ?_
                      show jT _ _ 137 _ _ _ _
                      refine tl_getr (c := 6) (k9 := 7) (b := 342) rfl rfl rfl rfl ?_
                      refine tl_iload_n rfl rfl ?_
                      refine tl_iload rfl rfl ?_
                      refine tl_iast (n := 100) rfl rfl rfl (by omega) (by omega) ?_
                      refine tl_aload_n rfl rfl ?_
                      refine tl_getr (c := 6) (k9 := 8) (b := 343) rfl rfl rfl rfl ?_
                      refine tl_iload_n rfl rfl ?_
                      show jT _ _ 149 _ _ _ _
                      refine tl_iload_n rfl rfl ?_
                      refine tl_iast (n := 100) rfl rfl rfl (by omega) (by omega) ?_
                      refine tl_iload_n rfl rfl ?_
                      refine tl_iload rfl rfl ?_
                      refine tl_iload rfl rfl ?_
                      refine tl_iadd rfl ?_
                      refine tl_iadd rfl ?_
                      show jT _ _ 158 _ _ _ _
                      refine tl_istore_n rfl (Nat.le_of_ble_eq_true rfl) rfl ?_
                      refine tl_aload_n rfl rfl ?_
                      refine tl_dup rfl rfl ?_
                      refine tl_geti (c := 6) (k9 := 15) rfl rfl rfl ?_
                      rw [hs_o (by decide), hs_o (by decide), hs_o (by decide), hs_o (by decide), f3.2 15 (by decide), f2.2 15 (by decide), f1.2 15 (by decide), i3]
                      refine tl_iload rfl rfl ?_
                      refine tl_iadd rfl ?_
                      refine tl_puti (c := 6) (k9 := 15) rfl rfl rfl rfl ?_
                      show jT _ _ 170 _ _ _ _
                      refine tl_iinc rfl rfl rfl ?_
                      refine tl_goto (tgt := 11) rfl rfl ?_
                      show jT _ _ 11 _ _ _ _
                      -- leaf 2 at 11
                      have ep : ptS B N os ns p0 (k + 1) = ptU k (pC B N ((ptS B N os ns p0 k) 0 1).toNat).2 ((ptS B N os ns p0 k) 0 2 + sk9 (pA B N ((ptS B N os ns p0 k) 0 1).toNat).1) (pB B N ((ptS B N os ns p0 k) 0 1).toNat).1 (pC B N ((ptS B N os ns p0 k) 0 1).toNat).1 (ptS B N os ns p0 k) := by rw [ptS, if_pos i1, pt1_c (by omega) (by omega)]
                      rw [Int.toNat_natCast]
                      have u0 : ptS B N os ns p0 (k + 1) 0 0 = 0 := by rw [ep]; exact i1
                      have u1 : ptS B N os ns p0 (k + 1) 0 1 = ((pC B N ((ptS B N os ns p0 k) 0 1).toNat).2 : Int) := by rw [ep]; rfl
                      have u2 : ptS B N os ns p0 (k + 1) 0 2 = ((ptS B N os ns p0 k) 0 2 + sk9 (pA B N ((ptS B N os ns p0 k) 0 1).toNat).1) + (pB B N ((ptS B N os ns p0 k) 0 1).toNat).1 := by rw [ep]; rfl
                      have u3 : ptS B N os ns p0 (k + 1) 0 3 = (ptS B N os ns p0 k) 0 3 + (pB B N ((ptS B N os ns p0 k) 0 1).toNat).1 + (pC B N ((ptS B N os ns p0 k) 0 1).toNat).1 := by rw [ep]; rfl
                      have u4 : ptS B N os ns p0 (k + 1) 0 4 = (ptS B N os ns p0 k) 0 4 + (pB B N ((ptS B N os ns p0 k) 0 1).toNat).1 := by rw [ep]; rfl
                      have ff : ∀ x, x ≠ 339 → h3 x = mem x := fun x hx => by rw [f3.1 x hx, f2.1 x hx, f1.1 x hx]
                      have fq : ∀ q, q ≠ 16 → h3 339 q = mem 339 q := fun q hq => by rw [f3.2 q hq, f2.2 q hq, f1.2 q hq]
                      refine jT.loc ?_ (ih (k + 1) (hs (hs (hs (hs (hs h3 340 k ((ptS B N os ns p0 k) 0 2 + sk9 (pA B N ((ptS B N os ns p0 k) 0 1).toNat).1)) 341 k (pB B N ((ptS B N os ns p0 k) 0 1).toNat).1) 342 k (pC B N ((ptS B N os ns p0 k) 0 1).toNat).1) 343 k ((ptS B N os ns p0 k) 0 3)) 339 15 ((ptS B N os ns p0 k) 0 4 + (pB B N ((ptS B N os ns p0 k) 0 1).toNat).1)) (some (.int (jI ((pA B N ((ptS B N os ns p0 k) 0 1).toNat).1)))) (some (.int (jI ((pB B N ((ptS B N os ns p0 k) 0 1).toNat).1)))) (some (.int (jI ((pC B N ((ptS B N os ns p0 k) 0 1).toNat).1)))) (some (.int (jI (((ptS B N os ns p0 k) 0 2 + sk9 (pA B N ((ptS B N os ns p0 k) 0 1).toNat).1))))) (by omega) ⟨by omega, u0, ⟨?_, ?_⟩, ?_, ⟨?_, ?_, ?_⟩, fun x hx => ?_, fun q hq hq2 => ?_⟩)
                      · rw [u2, u3, show (ptS B N os ns p0 k) 0 3 + ((pB B N ((ptS B N os ns p0 k) 0 1).toNat).1 + (pC B N ((ptS B N os ns p0 k) 0 1).toNat).1) = (ptS B N os ns p0 k) 0 3 + (pB B N ((ptS B N os ns p0 k) 0 1).toNat).1 + (pC B N ((ptS B N os ns p0 k) 0 1).toNat).1 by omega]
                        rfl
                      · rw [u1, Int.toNat_natCast]
                        refine k3.at' (fun q hq => ?_) ?_
                        · rw [hs_k (by omega), hs_o (by decide), hs_o (by decide), hs_o (by decide), hs_o (by decide)]
                        · rw [hs_O (by decide), hs_O (by decide), hs_O (by decide), hs_O (by decide), hs_O (by decide)]
                      · rw [hs_s, u4]
                      · intro q hq
                        rw [ep]
                        by_cases cq : q = k
                        · subst cq
                          refine ⟨?_, ?_, ?_, ?_⟩
                          · rw [hs_o (by decide), hs_o (by decide), hs_o (by decide), hs_o (by decide), hs_s]; unfold ptU; rw [if_neg (by decide), if_pos rfl, if_pos rfl]
                          · rw [hs_o (by decide), hs_o (by decide), hs_o (by decide), hs_s]; unfold ptU; rw [if_neg (by decide), if_pos rfl, if_neg (by decide), if_pos rfl]
                          · rw [hs_o (by decide), hs_o (by decide), hs_s]; unfold ptU; rw [if_neg (by decide), if_pos rfl, if_neg (by decide), if_neg (by decide), if_pos rfl]
                          · rw [hs_o (by decide), hs_s]; unfold ptU; rw [if_neg (by decide), if_pos rfl, if_neg (by decide), if_neg (by decide), if_neg (by decide), if_pos rfl]
                        · have o := i4 q (by omega)
                          have w1 : ∀ r, r ≠ 0 → ptU k (pC B N ((ptS B N os ns p0 k) 0 1).toNat).2 ((ptS B N os ns p0 k) 0 2 + sk9 (pA B N ((ptS B N os ns p0 k) 0 1).toNat).1) (pB B N ((ptS B N os ns p0 k) 0 1).toNat).1 (pC B N ((ptS B N os ns p0 k) 0 1).toNat).1 (ptS B N os ns p0 k) r q = (ptS B N os ns p0 k) r q := fun r hr => by unfold ptU; rw [if_neg hr, if_neg cq]
                          rw [w1 1 (by decide), w1 2 (by decide), w1 3 (by decide), w1 4 (by decide)]
                          refine ⟨?_, ?_, ?_, ?_⟩
                          · rw [hs_o (by decide), hs_o (by decide), hs_o (by decide), hs_o (by decide), hs_k cq, ff 340 (by decide)]; exact o.1
                          · rw [hs_o (by decide), hs_o (by decide), hs_o (by decide), hs_k cq, hs_o (by decide), ff 341 (by decide)]; exact o.2.1
                          · rw [hs_o (by decide), hs_o (by decide), hs_k cq, hs_o (by decide), hs_o (by decide), ff 342 (by decide)]; exact o.2.2.1
                          · rw [hs_o (by decide), hs_k cq, hs_o (by decide), hs_o (by decide), hs_o (by decide), ff 343 (by decide)]; exact o.2.2.2
                      · rw [hs_k (by decide), hs_o (by decide), hs_o (by decide), hs_o (by decide), hs_o (by decide), fq 0 (by decide)]; exact i5
                      · rw [hs_k (by decide), hs_o (by decide), hs_o (by decide), hs_o (by decide), hs_o (by decide), fq 2 (by decide)]; exact i6
                      · rw [hs_k (by decide), hs_o (by decide), hs_o (by decide), hs_o (by decide), hs_o (by decide), fq 4 (by decide)]; exact i7
                      · rw [hs_O (by omega), hs_O (by omega), hs_O (by omega), hs_O (by omega), hs_O (by omega), ff x (by omega)]; exact fr.1 x hx
                      · rw [hs_k hq, hs_o (by decide), hs_o (by decide), hs_o (by decide), hs_o (by decide), fq q hq2]; exact fr.2 q hq hq2
                    · show jT _ _ 118 _ _ _ _
                      refine tl_iconst rfl ?_
                      refine tl_iret rfl ?_
                      -- leaf 3 at 119
                      first
                        | (exfalso; omega)
                        | (have ep : ptS B N os ns p0 (k + 1) = hs (ptS B N os ns p0 k) 0 0 5 := by rw [ptS, if_pos i1, pt1_b (by omega) (by omega)]
                           have e0 : ptS B N os ns p0 (k + 1) 0 0 = 5 := by rw [ep, hs_s]
                           have en : ptS B N os ns p0 np = ptS B N os ns p0 (k + 1) := by have := ptS_st (k + 1 |> fun _ => (by rw [e0]; decide : ptS B N os ns p0 (k + 1) 0 0 ≠ 0)) (np - (k + 1)); rwa [show k + 1 + (np - (k + 1)) = np by omega] at this
                           have ef : ptF B N os ns p0 np = 5 := by rw [ptF, en, e0, if_neg (by decide)]
                           refine hP _ _ ⟨ef.symm, fun hz => by rw [ef] at hz; exact absurd hz (by decide), fun x hx => by rw [f3.1 x (by omega), f2.1 x (by omega), f1.1 x (by omega)]; exact fr.1 x hx, fun q hq hq2 => by rw [f3.2 q hq2, f2.2 q hq2, f1.2 q hq2]; exact fr.2 q hq hq2⟩)
              · show jT _ _ 68 _ _ _ _
                refine tl_iload rfl rfl ?_
                refine tl_iconst rfl ?_
                refine tl_idiv rfl (by omega) (by omega) (by omega) (by omega) ?_
                refine tl_goto (tgt := 82) rfl rfl ?_
                refine tl_iadd rfl ?_
                show jT _ _ 83 _ _ _ _
                -- leaf 6 at 83
                first | rw [show (ptS B N os ns p0 k) 0 2 + (pA B N ((ptS B N os ns p0 k) 0 1).toNat).1 / 2 = ((ptS B N os ns p0 k) 0 2 + sk9 (pA B N ((ptS B N os ns p0 k) 0 1).toNat).1) by omega] | rw [show (ptS B N os ns p0 k) 0 2 + -(((pA B N ((ptS B N os ns p0 k) 0 1).toNat).1 + 1) / 2) = ((ptS B N os ns p0 k) 0 2 + sk9 (pA B N ((ptS B N os ns p0 k) 0 1).toNat).1) by omega]
                refine tl_istore rfl (Nat.le_of_ble_eq_true rfl) rfl ?_
                refine tl_iload rfl rfl ?_
                refine tl_iload rfl rfl ?_
                refine tl_iadd rfl ?_
                refine tl_istore_n rfl (Nat.le_of_ble_eq_true rfl) rfl ?_
                refine tl_iload rfl rfl ?_
                show jT _ _ 93 _ _ _ _
                refine tl_if_lt (tgt := 118) rfl rfl ⟨by omega, by omega⟩ (fun c1 => ?_) (fun c1 => ?_)
                · skip
                  refine tl_iconst rfl ?_
                  refine tl_iret rfl ?_
                  -- leaf 0 at 119
                  first
                    | (exfalso; omega)
                    | (have ep : ptS B N os ns p0 (k + 1) = hs (ptS B N os ns p0 k) 0 0 5 := by rw [ptS, if_pos i1, pt1_b (by omega) (by omega)]
                       have e0 : ptS B N os ns p0 (k + 1) 0 0 = 5 := by rw [ep, hs_s]
                       have en : ptS B N os ns p0 np = ptS B N os ns p0 (k + 1) := by have := ptS_st (k + 1 |> fun _ => (by rw [e0]; decide : ptS B N os ns p0 (k + 1) 0 0 ≠ 0)) (np - (k + 1)); rwa [show k + 1 + (np - (k + 1)) = np by omega] at this
                       have ef : ptF B N os ns p0 np = 5 := by rw [ptF, en, e0, if_neg (by decide)]
                       refine hP _ _ ⟨ef.symm, fun hz => by rw [ef] at hz; exact absurd hz (by decide), fun x hx => by rw [f3.1 x (by omega), f2.1 x (by omega), f1.1 x (by omega)]; exact fr.1 x hx, fun q hq hq2 => by rw [f3.2 q hq2, f2.2 q hq2, f1.2 q hq2]; exact fr.2 q hq hq2⟩)
                · show jT _ _ 96 _ _ _ _
                  refine tl_iload_n rfl rfl ?_
                  refine tl_aload_n rfl rfl ?_
                  refine tl_geti (c := 6) (k9 := 0) rfl rfl rfl ?_
                  rw [f3.2 0 (by decide), f2.2 0 (by decide), f1.2 0 (by decide), i5]
                  refine tl_icmp_gt (tgt := 118) rfl rfl ⟨by omega, by omega⟩ ⟨by omega, by omega⟩ (fun c2 => ?_) (fun c2 => ?_)
                  · skip
                    show jT _ _ 118 _ _ _ _
                    refine tl_iconst rfl ?_
                    refine tl_iret rfl ?_
                    -- leaf 1 at 119
                    first
                      | (exfalso; omega)
                      | (have ep : ptS B N os ns p0 (k + 1) = hs (ptS B N os ns p0 k) 0 0 5 := by rw [ptS, if_pos i1, pt1_b (by omega) (by omega)]
                         have e0 : ptS B N os ns p0 (k + 1) 0 0 = 5 := by rw [ep, hs_s]
                         have en : ptS B N os ns p0 np = ptS B N os ns p0 (k + 1) := by have := ptS_st (k + 1 |> fun _ => (by rw [e0]; decide : ptS B N os ns p0 (k + 1) 0 0 ≠ 0)) (np - (k + 1)); rwa [show k + 1 + (np - (k + 1)) = np by omega] at this
                         have ef : ptF B N os ns p0 np = 5 := by rw [ptF, en, e0, if_neg (by decide)]
                         refine hP _ _ ⟨ef.symm, fun hz => by rw [ef] at hz; exact absurd hz (by decide), fun x hx => by rw [f3.1 x (by omega), f2.1 x (by omega), f1.1 x (by omega)]; exact fr.1 x hx, fun q hq hq2 => by rw [f3.2 q hq2, f2.2 q hq2, f1.2 q hq2]; exact fr.2 q hq hq2⟩)
                  · show jT _ _ 104 _ _ _ _
                    refine tl_iload rfl rfl ?_
                    refine tl_iload rfl rfl ?_
                    refine tl_iadd rfl ?_
                    refine tl_aload_n rfl rfl ?_
                    refine tl_geti (c := 6) (k9 := 2) rfl rfl rfl ?_
                    rw [f3.2 2 (by decide), f2.2 2 (by decide), f1.2 2 (by decide), i6]
                    show jT _ _ 113 _ _ _ _
                    refine tl_iload_n rfl rfl ?_
                    refine tl_isub rfl ?_
                    refine tl_icmp_le (tgt := 120) rfl rfl ⟨by omega, by omega⟩ ⟨by omega, by omega⟩ (fun c3 => ?_) (fun c3 => ?_)
                    · skip
                      refine tl_aload_n rfl rfl ?_
                      refine tl_getr (c := 6) (k9 := 5) (b := 340) rfl rfl rfl rfl ?_
                      refine tl_iload_n rfl rfl ?_
                      refine tl_iload rfl rfl ?_
                      show jT _ _ 127 _ _ _ _
                      refine tl_iast (n := 100) rfl rfl rfl (by omega) (by omega) ?_
                      refine tl_aload_n rfl rfl ?_
                      refine tl_getr (c := 6) (k9 := 6) (b := 341) rfl rfl rfl rfl ?_
                      refine tl_iload_n rfl rfl ?_
                      refine tl_iload rfl rfl ?_
                      refine tl_iast (n := 100) rfl rfl rfl (by omega) (by omega) ?_
                      refine tl_aload_n rfl rfl ?_
                      show jT _ _ 137 _ _ _ _
                      refine tl_getr (c := 6) (k9 := 7) (b := 342) rfl rfl rfl rfl ?_
                      refine tl_iload_n rfl rfl ?_
                      refine tl_iload rfl rfl ?_
                      refine tl_iast (n := 100) rfl rfl rfl (by omega) (by omega) ?_
                      refine tl_aload_n rfl rfl ?_
                      refine tl_getr (c := 6) (k9 := 8) (b := 343) rfl rfl rfl rfl ?_
                      refine tl_iload_n rfl rfl ?_
                      show jT _ _ 149 _ _ _ _
                      refine tl_iload_n rfl rfl ?_
                      refine tl_iast (n := 100) rfl rfl rfl (by omega) (by omega) ?_
                      refine tl_iload_n rfl rfl ?_
                      refine tl_iload rfl rfl ?_
                      refine tl_iload rfl rfl ?_
                      refine tl_iadd rfl ?_
                      refine tl_iadd rfl ?_
                      show jT _ _ 158 _ _ _ _
                      refine tl_istore_n rfl (Nat.le_of_ble_eq_true rfl) rfl ?_
                      refine tl_aload_n rfl rfl ?_
                      refine tl_dup rfl rfl ?_
                      refine tl_geti (c := 6) (k9 := 15) rfl rfl rfl ?_
                      rw [hs_o (by decide), hs_o (by decide), hs_o (by decide), hs_o (by decide), f3.2 15 (by decide), f2.2 15 (by decide), f1.2 15 (by decide), i3]
                      refine tl_iload rfl rfl ?_
                      refine tl_iadd rfl ?_
                      refine tl_puti (c := 6) (k9 := 15) rfl rfl rfl rfl ?_
                      show jT _ _ 170 _ _ _ _
                      refine tl_iinc rfl rfl rfl ?_
                      refine tl_goto (tgt := 11) rfl rfl ?_
                      show jT _ _ 11 _ _ _ _
                      -- leaf 2 at 11
                      have ep : ptS B N os ns p0 (k + 1) = ptU k (pC B N ((ptS B N os ns p0 k) 0 1).toNat).2 ((ptS B N os ns p0 k) 0 2 + sk9 (pA B N ((ptS B N os ns p0 k) 0 1).toNat).1) (pB B N ((ptS B N os ns p0 k) 0 1).toNat).1 (pC B N ((ptS B N os ns p0 k) 0 1).toNat).1 (ptS B N os ns p0 k) := by rw [ptS, if_pos i1, pt1_c (by omega) (by omega)]
                      rw [Int.toNat_natCast]
                      have u0 : ptS B N os ns p0 (k + 1) 0 0 = 0 := by rw [ep]; exact i1
                      have u1 : ptS B N os ns p0 (k + 1) 0 1 = ((pC B N ((ptS B N os ns p0 k) 0 1).toNat).2 : Int) := by rw [ep]; rfl
                      have u2 : ptS B N os ns p0 (k + 1) 0 2 = ((ptS B N os ns p0 k) 0 2 + sk9 (pA B N ((ptS B N os ns p0 k) 0 1).toNat).1) + (pB B N ((ptS B N os ns p0 k) 0 1).toNat).1 := by rw [ep]; rfl
                      have u3 : ptS B N os ns p0 (k + 1) 0 3 = (ptS B N os ns p0 k) 0 3 + (pB B N ((ptS B N os ns p0 k) 0 1).toNat).1 + (pC B N ((ptS B N os ns p0 k) 0 1).toNat).1 := by rw [ep]; rfl
                      have u4 : ptS B N os ns p0 (k + 1) 0 4 = (ptS B N os ns p0 k) 0 4 + (pB B N ((ptS B N os ns p0 k) 0 1).toNat).1 := by rw [ep]; rfl
                      have ff : ∀ x, x ≠ 339 → h3 x = mem x := fun x hx => by rw [f3.1 x hx, f2.1 x hx, f1.1 x hx]
                      have fq : ∀ q, q ≠ 16 → h3 339 q = mem 339 q := fun q hq => by rw [f3.2 q hq, f2.2 q hq, f1.2 q hq]
                      refine jT.loc ?_ (ih (k + 1) (hs (hs (hs (hs (hs h3 340 k ((ptS B N os ns p0 k) 0 2 + sk9 (pA B N ((ptS B N os ns p0 k) 0 1).toNat).1)) 341 k (pB B N ((ptS B N os ns p0 k) 0 1).toNat).1) 342 k (pC B N ((ptS B N os ns p0 k) 0 1).toNat).1) 343 k ((ptS B N os ns p0 k) 0 3)) 339 15 ((ptS B N os ns p0 k) 0 4 + (pB B N ((ptS B N os ns p0 k) 0 1).toNat).1)) (some (.int (jI ((pA B N ((ptS B N os ns p0 k) 0 1).toNat).1)))) (some (.int (jI ((pB B N ((ptS B N os ns p0 k) 0 1).toNat).1)))) (some (.int (jI ((pC B N ((ptS B N os ns p0 k) 0 1).toNat).1)))) (some (.int (jI (((ptS B N os ns p0 k) 0 2 + sk9 (pA B N ((ptS B N os ns p0 k) 0 1).toNat).1))))) (by omega) ⟨by omega, u0, ⟨?_, ?_⟩, ?_, ⟨?_, ?_, ?_⟩, fun x hx => ?_, fun q hq hq2 => ?_⟩)
                      · rw [u2, u3, show (ptS B N os ns p0 k) 0 3 + ((pB B N ((ptS B N os ns p0 k) 0 1).toNat).1 + (pC B N ((ptS B N os ns p0 k) 0 1).toNat).1) = (ptS B N os ns p0 k) 0 3 + (pB B N ((ptS B N os ns p0 k) 0 1).toNat).1 + (pC B N ((ptS B N os ns p0 k) 0 1).toNat).1 by omega]
                        rfl
                      · rw [u1, Int.toNat_natCast]
                        refine k3.at' (fun q hq => ?_) ?_
                        · rw [hs_k (by omega), hs_o (by decide), hs_o (by decide), hs_o (by decide), hs_o (by decide)]
                        · rw [hs_O (by decide), hs_O (by decide), hs_O (by decide), hs_O (by decide), hs_O (by decide)]
                      · rw [hs_s, u4]
                      · intro q hq
                        rw [ep]
                        by_cases cq : q = k
                        · subst cq
                          refine ⟨?_, ?_, ?_, ?_⟩
                          · rw [hs_o (by decide), hs_o (by decide), hs_o (by decide), hs_o (by decide), hs_s]; unfold ptU; rw [if_neg (by decide), if_pos rfl, if_pos rfl]
                          · rw [hs_o (by decide), hs_o (by decide), hs_o (by decide), hs_s]; unfold ptU; rw [if_neg (by decide), if_pos rfl, if_neg (by decide), if_pos rfl]
                          · rw [hs_o (by decide), hs_o (by decide), hs_s]; unfold ptU; rw [if_neg (by decide), if_pos rfl, if_neg (by decide), if_neg (by decide), if_pos rfl]
                          · rw [hs_o (by decide), hs_s]; unfold ptU; rw [if_neg (by decide), if_pos rfl, if_neg (by decide), if_neg (by decide), if_neg (by decide), if_pos rfl]
                        · have o := i4 q (by omega)
                          have w1 : ∀ r, r ≠ 0 → ptU k (pC B N ((ptS B N os ns p0 k) 0 1).toNat).2 ((ptS B N os ns p0 k) 0 2 + sk9 (pA B N ((ptS B N os ns p0 k) 0 1).toNat).1) (pB B N ((ptS B N os ns p0 k) 0 1).toNat).1 (pC B N ((ptS B N os ns p0 k) 0 1).toNat).1 (ptS B N os ns p0 k) r q = (ptS B N os ns p0 k) r q := fun r hr => by unfold ptU; rw [if_neg hr, if_neg cq]
                          rw [w1 1 (by decide), w1 2 (by decide), w1 3 (by decide), w1 4 (by decide)]
                          refine ⟨?_, ?_, ?_, ?_⟩
                          · rw [hs_o (by decide), hs_o (by decide), hs_o (by decide), hs_o (by decide), hs_k cq, ff 340 (by decide)]; exact o.1
                          · rw [hs_o (by decide), hs_o (by decide), hs_o (by decide), hs_k cq, hs_o (by decide), ff 341 (by decide)]; exact o.2.1
                          · rw [hs_o (by decide), hs_o (by decide), hs_k cq, hs_o (by decide), hs_o (by decide), ff 342 (by decide)]; exact o.2.2.1
                          · rw [hs_o (by decide), hs_k cq, hs_o (by decide), hs_o (by decide), hs_o (by decide), ff 343 (by decide)]; exact o.2.2.2
                      · rw [hs_k (by decide), hs_o (by decide), hs_o (by decide), hs_o (by decide), hs_o (by decide), fq 0 (by decide)]; exact i5
                      · rw [hs_k (by decide), hs_o (by decide), hs_o (by decide), hs_o (by decide), hs_o (by decide), fq 2 (by decide)]; exact i6
                      · rw [hs_k (by decide), hs_o (by decide), hs_o (by decide), hs_o (by decide), hs_o (by decide), fq 4 (by decide)]; exact i7
                      · rw [hs_O (by omega), hs_O (by omega), hs_O (by omega), hs_O (by omega), hs_O (by omega), ff x (by omega)]; exact fr.1 x hx
                      · rw [hs_k hq, hs_o (by decide), hs_o (by decide), hs_o (by decide), hs_o (by decide), fq q hq2]; exact fr.2 q hq hq2
                    · show jT _ _ 118 _ _ _ _
                      refine tl_iconst rfl ?_
                      refine tl_iret rfl ?_
                      -- leaf 3 at 119
                      first
                        | (exfalso; omega)
                        | (have ep : ptS B N os ns p0 (k + 1) = hs (ptS B N os ns p0 k) 0 0 5 := by rw [ptS, if_pos i1, pt1_b (by omega) (by omega)]
                           have e0 : ptS B N os ns p0 (k + 1) 0 0 = 5 := by rw [ep, hs_s]
                           have en : ptS B N os ns p0 np = ptS B N os ns p0 (k + 1) := by have := ptS_st (k + 1 |> fun _ => (by rw [e0]; decide : ptS B N os ns p0 (k + 1) 0 0 ≠ 0)) (np - (k + 1)); rwa [show k + 1 + (np - (k + 1)) = np by omega] at this
                           have ef : ptF B N os ns p0 np = 5 := by rw [ptF, en, e0, if_neg (by decide)]
                           refine hP _ _ ⟨ef.symm, fun hz => by rw [ef] at hz; exact absurd hz (by decide), fun x hx => by rw [f3.1 x (by omega), f2.1 x (by omega), f1.1 x (by omega)]; exact fr.1 x hx, fun q hq hq2 => by rw [f3.2 q hq2, f2.2 q hq2, f1.2 q hq2]; exact fr.2 q hq hq2⟩)
            · show jT _ _ 58 _ _ _ _
              refine tl_iconst rfl ?_
              show jT _ _ 59 _ _ _ _
              refine tl_iret rfl ?_
              -- leaf 7 at 59
              first
                | (exfalso; omega)
                | (have ep : ptS B N os ns p0 (k + 1) = hs (ptS B N os ns p0 k) 0 0 3 := by rw [ptS, if_pos i1, pt1_a (by omega)]
                   have e0 : ptS B N os ns p0 (k + 1) 0 0 = 3 := by rw [ep, hs_s]
                   have en : ptS B N os ns p0 np = ptS B N os ns p0 (k + 1) := by have := ptS_st (k + 1 |> fun _ => (by rw [e0]; decide : ptS B N os ns p0 (k + 1) 0 0 ≠ 0)) (np - (k + 1)); rwa [show k + 1 + (np - (k + 1)) = np by omega] at this
                   have ef : ptF B N os ns p0 np = 3 := by rw [ptF, en, e0, if_neg (by decide)]
                   refine hP _ _ ⟨ef.symm, fun hz => by rw [ef] at hz; exact absurd hz (by decide), fun x hx => by rw [f3.1 x (by omega), f2.1 x (by omega), f1.1 x (by omega)]; exact fr.1 x hx, fun q hq hq2 => by rw [f3.2 q hq2, f2.2 q hq2, f1.2 q hq2]; exact fr.2 q hq hq2⟩)
set_option maxRecDepth 20000 in
set_option maxHeartbeats 1000000 in
theorem k_partsFlaw (l : Launch) (h : jH) (B : Nat → Int) (N p0 np : Nat) (os ns : Int) (hB : BB B N) (hp : p0 ≤ N) (n298 : N ≤ 298) (o0 : 0 ≤ os ∧ os ≤ 64) (n0 : 0 ≤ ns ∧ ns ≤ 64) (np0 : np ≤ 16383) (kr : RDK h B N p0) (hb : h 339 0 = os ∧ h 339 2 = ns ∧ h 339 4 = (np : Int)) : cI l 71 [.ref 339] h (fun z h' => (z = ptF B N os ns p0 np ∧ (ptF B N os ns p0 np = 0 → RDK h' B N ((ptS B N os ns p0 np) 0 1).toNat ∧ h' 339 15 = (ptS B N os ns p0 np) 0 4 ∧ PTK h' (ptS B N os ns p0 np) np) ∧ (∀ x, (x < 339 ∨ 343 < x) → h' x = h x) ∧ ∀ q, q ≠ 15 → q ≠ 16 → h' 339 q = h 339 q)) := by
  refine cI.of rfl rfl ?_
  refine tl_iconst rfl ?_
  refine tl_istore_n rfl (Nat.le_of_ble_eq_true rfl) rfl ?_
  refine tl_iconst rfl ?_
  refine tl_istore_n rfl (Nat.le_of_ble_eq_true rfl) rfl ?_
  refine tl_aload_n rfl rfl ?_
  refine tl_iconst rfl ?_
  show jT _ _ 6 _ _ _ _
  refine tl_puti (c := 6) (k9 := 15) rfl rfl rfl rfl ?_
  refine tl_iconst rfl ?_
  refine tl_istore_n rfl (Nat.le_of_ble_eq_true rfl) rfl ?_
  show jT _ _ 11 _ _ _ _
  -- leaf 0 at 11
  refine k_pfl_lp l h B N p0 np os ns hB hp n298 o0 n0 np0 _ (fun z mem hz => ⟨z, rfl, hz⟩) _ 0 _ none none none none (Nat.lt_succ_self _) ⟨Nat.zero_le _, rfl, ⟨?_, ?_⟩, fun q hq => by omega, ⟨by rw [hs_k (by decide)]; exact hb.1, by rw [hs_k (by decide)]; exact hb.2.1, by rw [hs_k (by decide)]; exact hb.2.2⟩, fun x hx => hs_O (by omega), fun q hq _ => hs_k hq⟩
  · rw [show (ptS B N os ns p0 0 0 1).toNat = p0 from Int.toNat_natCast _]
    exact kr.at' (fun q hq => hs_k (by omega)) (hs_O (by decide))
  · rw [hs_s]; rfl
