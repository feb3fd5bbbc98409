/-! a patch read: its rows, of the walked file, all three ways -/
set_option maxRecDepth 20000 in
set_option maxHeartbeats 1000000 in
theorem k_zeros9 (l : Launch) {r a n : Nat} (hS : RowS r a n) (hD : (r < 339 ∨ 351 < r) ∧ (a < 339 ∨ 351 < a)) (h : jH) (B : Nat → Int) (N : Nat) (hB : BB B N) (many p : Nat) (m64 : many ≤ 64) (mn : many ≤ n) (kr : RDK h B N p) (kV : RL h r a []) : cI l 74 [.ref 339, .ref r, .int (jI (many : Int))] h (fun z h' => (z = (zrR B N many many p []).1 ∧ ((zrR B N many many p []).1 = 0 → RDK h' B N (zrR B N many many p []).2.1 ∧ RL h' r a (zrR B N many many p []).2.2) ∧ (∀ x, x ≠ 339 → x ≠ r → x ≠ a → h' x = h x) ∧ ∀ q, q ≠ 16 → h' 339 q = h 339 q)) := by
  refine cI.of rfl rfl ?_
  refine tl_iconst rfl ?_
  refine tl_istore_n rfl (Nat.le_of_ble_eq_true rfl) rfl ?_
  show jT _ _ 2 _ _ _ _
  -- leaf 0 at 2
  exact k_zrf_lp l hS hD h B N hB many m64 mn _ _ (fun z mem hz => ⟨z, rfl, hz⟩) _ 0 p [] many h _ _ (Nat.lt_succ_self _) ⟨Nat.zero_le _, Nat.zero_le _, by omega, kr, kV, rfl, fun x _ _ _ => rfl, fun q _ => rfl⟩
set_option maxRecDepth 20000 in
set_option maxHeartbeats 1000000 in
theorem k_rnf_lp (l : Launch) {r a n : Nat} (hS : RowS r a n) (hD : (r < 339 ∨ 351 < r) ∧ (a < 339 ∨ 351 < a)) (h : jH) (B : Nat → Int) (N : Nat) (hB : BB B N) (many : Nat) (m64 : many ≤ 64) (mn : many ≤ n) (E : Int × Nat × List Int) (P : Option Value → jH → Prop) (hP : ∀ z mem, (z = E.1 ∧ (E.1 = 0 → RDK mem B N E.2.1 ∧ RL mem r a E.2.2) ∧ (∀ x, x ≠ 339 → x ≠ r → x ≠ a → mem x = h x) ∧ ∀ q, q ≠ 16 → mem 339 q = h 339 q) → P (some (.int (jI z))) mem) : ∀ (m : Nat) (rd : Nat) (p : Nat) (V : List Int) (fu : Nat) (mem : jH) (y4 : Option Value) (y5 : Option Value), many - rd < m → (rd ≤ V.length ∧ V.length ≤ many ∧ many - V.length ≤ fu ∧ RDK mem B N p ∧ RL mem r a V ∧ rnQ B N many fu p V = E ∧ (∀ x, x ≠ 339 → x ≠ r → x ≠ a → mem x = h x) ∧ ∀ q, q ≠ 16 → mem 339 q = h 339 q) → jT l 75 2 [some (.ref 339), some (.ref r), some (.int (jI ((many : Int)))), some (.int (jI ((rd : Int)))), y4, y5] [] mem P := by
  intro m
  induction m with
  | zero => intro rd p V fu mem y4 y5 hk; omega
  | succ m ih =>
    intro rd p V fu mem y4 y5 hk hi
    obtain ⟨i0, i1, ifu, i2, i3, hE, fr, fr2⟩ := hi
    have pb := rn_b hB i2.2.2.2.2.2
    have pb2 := rb_b hB pb.2.2.1
    refine tl_iload_n rfl rfl ?_
    refine tl_iload_n rfl rfl ?_
    refine tl_icmp_ge (tgt := 73) rfl rfl ⟨by omega, by omega⟩ ⟨by omega, by omega⟩ (fun c1 => ?_) (fun c1 => ?_)
    · skip
      refine tl_iconst rfl ?_
      refine tl_iret rfl ?_
      -- leaf 0 at 74
      have e : many ≤ V.length := by omega
      rw [rnQ_e e] at hE
      subst hE
      exact hP _ mem ⟨rfl, fun _ => ⟨i2, i3⟩, fr, fr2⟩
    · show jT _ _ 7 _ _ _ _
      refine tl_aload_n rfl rfl ?_
      show jT _ _ 8 _ _ _ _
      refine tl_geti (c := 8) (k9 := 1) rfl hS.1 rfl ?_
      rw [i3.1]
      refine tl_iload_n rfl rfl ?_
      refine tl_icmp_ge (tgt := 73) rfl rfl ⟨by omega, by omega⟩ ⟨by omega, by omega⟩ (fun c2 => ?_) (fun c2 => ?_)
      · skip
        refine tl_iconst rfl ?_
        refine tl_iret rfl ?_
        -- leaf 1 at 74
        have e : many ≤ V.length := by omega
        rw [rnQ_e e] at hE
        subst hE
        exact hP _ mem ⟨rfl, fun _ => ⟨i2, i3⟩, fr, fr2⟩
      · show jT _ _ 15 _ _ _ _
        refine tl_aload_n rfl rfl ?_
        refine tl_v0i (c9 := 6) (k_nextNum l mem B N p i2) rfl rfl rfl rfl rfl (Nat.le_of_ble_eq_true rfl) (fun z1 h1 p1 => ?_)
        obtain ⟨e1, k1, f1⟩ := p1
        subst e1
        show jT _ _ 19 _ _ _ _
        refine tl_istore rfl (Nat.le_of_ble_eq_true rfl) rfl ?_
        refine tl_iload rfl rfl ?_
        refine tl_if_ge (tgt := 28) rfl rfl ⟨by omega, by omega⟩ (fun c3 => ?_) (fun c3 => ?_)
        · skip
          refine tl_iload rfl rfl ?_
          refine tl_if_eq (tgt := 44) rfl rfl ⟨by omega, by omega⟩ (fun c4 => ?_) (fun c4 => ?_)
          · skip
            refine tl_iconst rfl ?_
            refine tl_iret rfl ?_
            -- leaf 2 at 45
            rw [show fu = fu - 1 + 1 by omega, rnQ, if_neg (by omega), if_neg (by omega), if_pos (by omega)] at hE
            subst hE
            exact hP _ _ ⟨rfl, fun hz => absurd hz (by show ¬ (5 : Int) = 0; decide), fun x x1 x2 x3 => by rw [f1.1 x x1]; exact fr x x1 x2 x3, fun q hq => by rw [f1.2 q hq]; exact fr2 q hq⟩
          · show jT _ _ 33 _ _ _ _
            show jT _ _ 33 _ _ _ _
            refine tl_iload rfl rfl ?_
            refine tl_iload_n rfl rfl ?_
            refine tl_aload_n rfl rfl ?_
            refine tl_geti (c := 8) (k9 := 1) rfl hS.1 rfl ?_
            rw [f1.1 r (by omega), i3.1]
            refine tl_isub rfl ?_
            refine tl_icmp_le (tgt := 46) rfl rfl ⟨by omega, by omega⟩ ⟨by omega, by omega⟩ (fun c5 => ?_) (fun c5 => ?_)
            · skip
              refine tl_aload_n rfl rfl ?_
              show jT _ _ 47 _ _ _ _
              refine tl_v0i (c9 := 6) (k_nextByte l h1 B N (rn B N p).2 k1) rfl rfl rfl rfl rfl (Nat.le_of_ble_eq_true rfl) (fun z3 h3 p3 => ?_)
              obtain ⟨e3, k3, f3⟩ := p3
              subst e3
              refine tl_istore rfl (Nat.le_of_ble_eq_true rfl) rfl ?_
              refine tl_iload rfl rfl ?_
              refine tl_if_ge (tgt := 59) rfl rfl ⟨by omega, by omega⟩ (fun c6 => ?_) (fun c6 => ?_)
              · skip
                refine tl_aload_n rfl rfl ?_
                refine tl_iload rfl rfl ?_
                refine tl_iload rfl rfl ?_
                show jT _ _ 64 _ _ _ _
                refine tl_v2v (c9 := 8) (c_addM2 l hS h3 V (i3.of ((f3.1 r (by omega)).trans (f1.1 r (by omega))) ((f3.1 a (by omega)).trans (f1.1 a (by omega)))) (rb B N (rn B N p).2).1 (rn B N p).1 (by omega) (by omega) (by omega)) rfl rfl rfl hS.1 rfl (Nat.le_of_ble_eq_true rfl) (fun h4 p4 => ?_)
                obtain ⟨k4, f4⟩ := p4
                refine tl_iinc rfl rfl rfl ?_
                refine tl_goto (tgt := 2) rfl rfl ?_
                show jT _ _ 2 _ _ _ _
                -- leaf 3 at 2
                rw [show fu = fu - 1 + 1 by omega, rnQ, if_neg (by omega), if_neg (by omega), if_neg (by omega), if_neg (by omega)] at hE
                refine jT.loc ?_ (ih (rd + 1) (rb B N (rn B N p).2).2 (V ++ List.replicate (rn B N p).1.toNat (rb B N (rn B N p).2).1) (fu - 1) h4 (some (.int (jI ((rn B N p).1)))) (some (.int (jI ((rb B N (rn B N p).2).1)))) (by omega) ⟨by rw [List.length_append, List.length_replicate]; omega, by rw [List.length_append, List.length_replicate]; omega, by rw [List.length_append, List.length_replicate]; omega, k3.at' (fun q hq => by rw [f4 339 (by omega) (by omega)]) (f4 351 (by omega) (by omega)), k4, hE, fun x x1 x2 x3 => by rw [f4 x x2 x3, f3.1 x x1, f1.1 x x1]; exact fr x x1 x2 x3, fun q hq => by rw [f4 339 (by omega) (by omega), f3.2 q hq, f1.2 q hq]; exact fr2 q hq⟩)
                rfl
              · show jT _ _ 57 _ _ _ _
                refine tl_iconst rfl ?_
                refine tl_iret rfl ?_
                -- leaf 4 at 58
                rw [show fu = fu - 1 + 1 by omega, rnQ, if_neg (by omega), if_neg (by omega), if_neg (by omega), if_pos (by omega)] at hE
                subst hE
                exact hP _ _ ⟨rfl, fun hz => absurd hz (by show ¬ (3 : Int) = 0; decide), fun x x1 x2 x3 => by rw [f3.1 x x1, f1.1 x x1]; exact fr x x1 x2 x3, fun q hq => by rw [f3.2 q hq, f1.2 q hq]; exact fr2 q hq⟩
            · show jT _ _ 44 _ _ _ _
              refine tl_iconst rfl ?_
              refine tl_iret rfl ?_
              -- leaf 5 at 45
              rw [show fu = fu - 1 + 1 by omega, rnQ, if_neg (by omega), if_neg (by omega), if_pos (by omega)] at hE
              subst hE
              exact hP _ _ ⟨rfl, fun hz => absurd hz (by show ¬ (5 : Int) = 0; decide), fun x x1 x2 x3 => by rw [f1.1 x x1]; exact fr x x1 x2 x3, fun q hq => by rw [f1.2 q hq]; exact fr2 q hq⟩
        · show jT _ _ 26 _ _ _ _
          show jT _ _ 26 _ _ _ _
          refine tl_iconst rfl ?_
          refine tl_iret rfl ?_
          -- leaf 6 at 27
          rw [show fu = fu - 1 + 1 by omega, rnQ, if_neg (by omega), if_pos (by omega)] at hE
          subst hE
          exact hP _ _ ⟨rfl, fun hz => absurd hz (by show ¬ (3 : Int) = 0; decide), fun x x1 x2 x3 => by rw [f1.1 x x1]; exact fr x x1 x2 x3, fun q hq => by rw [f1.2 q hq]; exact fr2 q hq⟩
set_option maxRecDepth 20000 in
set_option maxHeartbeats 1000000 in
theorem k_runs9 (l : Launch) {r a n : Nat} (hS : RowS r a n) (hD : (r < 339 ∨ 351 < r) ∧ (a < 339 ∨ 351 < a)) (h : jH) (B : Nat → Int) (N : Nat) (hB : BB B N) (many p : Nat) (m64 : many ≤ 64) (mn : many ≤ n) (kr : RDK h B N p) (kV : RL h r a []) : cI l 75 [.ref 339, .ref r, .int (jI (many : Int))] h (fun z h' => (z = (rnQ B N many many p []).1 ∧ ((rnQ B N many many p []).1 = 0 → RDK h' B N (rnQ B N many many p []).2.1 ∧ RL h' r a (rnQ B N many many p []).2.2) ∧ (∀ x, x ≠ 339 → x ≠ r → x ≠ a → h' x = h x) ∧ ∀ q, q ≠ 16 → h' 339 q = h 339 q)) := by
  refine cI.of rfl rfl ?_
  refine tl_iconst rfl ?_
  refine tl_istore_n rfl (Nat.le_of_ble_eq_true rfl) rfl ?_
  show jT _ _ 2 _ _ _ _
  -- leaf 0 at 2
  exact k_rnf_lp l hS hD h B N hB many m64 mn _ _ (fun z mem hz => ⟨z, rfl, hz⟩) _ 0 p [] many h _ _ (Nat.lt_succ_self _) ⟨Nat.zero_le _, Nat.zero_le _, by omega, kr, kV, rfl, fun x _ _ _ => rfl, fun q _ => rfl⟩
set_option maxRecDepth 20000 in
set_option maxHeartbeats 1000000 in
theorem k_rowFlaw (l : Launch) {r a n : Nat} (hS : RowS r a n) (hD : (r < 339 ∨ 351 < r) ∧ (a < 339 ∨ 351 < a)) (h : jH) (B : Nat → Int) (N : Nat) (hB : BB B N) (many p wh : Nat) (m64 : many ≤ 64) (mn : many ≤ n) (w2 : wh < 2) (kr : RDK h B N p) : cI l 72 [.ref 339, .ref r, .int (jI (many : Int)), .int (jI (wh : Int))] h (fun z h' => (z = (rwR B N many p).1 ∧ ((rwR B N many p).1 = 0 → RDK h' B N (rwR B N many p).2.1 ∧ RL h' r a (rwR B N many p).2.2 ∧ h' 344 wh = (rn B N p).1) ∧ (∀ x, x ≠ 339 → x ≠ 344 → x ≠ r → x ≠ a → h' x = h x) ∧ (∀ q, q ≠ 16 → h' 339 q = h 339 q) ∧ ∀ q, q ≠ wh → h' 344 q = h 344 q)) := by
  have pb := rn_b hB kr.2.2.2.2.2
  have kr0 : RDK (hs h r 1 0) B N p := kr.at' (fun q hq => hs_o (by omega)) (hs_O (by omega))
  refine cI.of rfl rfl ?_
  refine tl_aload_n rfl rfl ?_
  refine tl_iconst rfl ?_
  refine tl_puti (c := 8) (k9 := 1) rfl rfl hS.1 rfl ?_
  refine tl_aload_n rfl rfl ?_
  refine tl_v0i (c9 := 6) (k_nextNum l (hs h r 1 0) B N p kr0) rfl rfl rfl rfl rfl (Nat.le_of_ble_eq_true rfl) (fun z1 h1 p1 => ?_)
  obtain ⟨e1, k1, f1⟩ := p1
  subst e1
  refine tl_istore rfl (Nat.le_of_ble_eq_true rfl) rfl ?_
  show jT _ _ 11 _ _ _ _
  refine tl_iload rfl rfl ?_
  refine tl_if_ge (tgt := 18) rfl rfl ⟨by omega, by omega⟩ (fun c1 => ?_) (fun c1 => ?_)
  · skip
    refine tl_iload rfl rfl ?_
    refine tl_iconst rfl ?_
    refine tl_icmp_le (tgt := 26) rfl rfl ⟨by omega, by omega⟩ ⟨by omega, by omega⟩ (fun c2 => ?_) (fun c2 => ?_)
    · skip
      refine tl_iload_n rfl rfl ?_
      refine tl_if_lt (tgt := 47) rfl rfl ⟨by omega, by omega⟩ (fun c3 => ?_) (fun c3 => ?_)
      · skip
        exfalso; omega
      · show jT _ _ 30 _ _ _ _
        show jT _ _ 30 _ _ _ _
        refine tl_iload_n rfl rfl ?_
        refine tl_aload_n rfl rfl ?_
        refine tl_getr (c := 6) (k9 := 9) (b := 344) rfl rfl rfl rfl ?_
        refine tl_alen (n := 2) rfl (Or.inl rfl) rfl ?_
        refine tl_icmp_ge (tgt := 47) rfl rfl ⟨by omega, by omega⟩ ⟨by omega, by omega⟩ (fun c4 => ?_) (fun c4 => ?_)
        · skip
          exfalso; omega
        · show jT _ _ 39 _ _ _ _
          refine tl_aload_n rfl rfl ?_
          refine tl_getr (c := 6) (k9 := 9) (b := 344) rfl rfl rfl rfl ?_
          show jT _ _ 43 _ _ _ _
          refine tl_iload_n rfl rfl ?_
          refine tl_iload rfl rfl ?_
          refine tl_iast (n := 2) rfl rfl rfl (by omega) (by omega) ?_
          rw [Int.toNat_natCast]
          refine tl_iload rfl rfl ?_
          refine tl_if_ne (tgt := 59) rfl rfl ⟨by omega, by omega⟩ (fun c5 => ?_) (fun c5 => ?_)
          · skip
            refine tl_iload rfl rfl ?_
            refine tl_iconst rfl ?_
            show jT _ _ 62 _ _ _ _
            refine tl_icmp_ne (tgt := 74) rfl rfl ⟨by omega, by omega⟩ ⟨by omega, by omega⟩ (fun c6 => ?_) (fun c6 => ?_)
            · skip
              refine tl_aload_n rfl rfl ?_
              refine tl_aload_n rfl rfl ?_
              refine tl_iload_n rfl rfl ?_
              refine tl_v2i (c9 := 6) (k_runs9 l hS hD (hs h1 344 wh (rn B N p).1) B N hB many (rn B N p).2 m64 mn (k1.at' (h' := hs h1 344 wh (rn B N p).1) (fun q hq => hs_o (by decide)) (hs_O (by decide))) (⟨by rw [hs_o (by omega), f1.1 r (by omega), hs_s]; rfl, fun i hi => absurd hi (by show ¬ i < 0; omega)⟩ : RL (hs h1 344 wh (rn B N p).1) r a [])) rfl rfl rfl rfl rfl (Nat.le_of_ble_eq_true rfl) (fun z4 h4 p4 => ?_)
              refine tl_iret rfl ?_
              -- leaf 0 at 80
              first
                | (exfalso; omega)
                | (obtain ⟨e4, k4, f4, g4⟩ := p4
                   refine ⟨_, rfl, ?_⟩
                   rw [rwR, if_neg (by omega), if_neg (by omega), if_neg (by omega), if_pos (by omega)]
                   refine ⟨e4, fun hz => ⟨(k4 hz).1, (k4 hz).2, ?_⟩, fun x x1 x2 x3 x4 => ?_, fun q hq => ?_, fun q hq => ?_⟩
                   · rw [f4 344 (by decide) (by omega) (by omega), hs_s]
                   · rw [f4 x x1 x3 x4, hs_O x2, f1.1 x x1, hs_O x3]
                   · rw [g4 q hq, hs_o (by decide), f1.2 q hq, hs_o (by omega)]
                   · rw [f4 344 (by decide) (by omega) (by omega), hs_k hq, f1.1 344 (by decide), hs_o (by omega)])
                | (obtain ⟨e4, k4, f4, g4⟩ := p4
                   refine ⟨_, rfl, ?_⟩
                   rw [rwR, if_neg (by omega), if_neg (by omega), if_neg (by omega), if_neg (by omega)]
                   refine ⟨e4, fun hz => ⟨(k4 hz).1, (k4 hz).2, ?_⟩, fun x x1 x2 x3 x4 => ?_, fun q hq => ?_, fun q hq => ?_⟩
                   · rw [f4 344 (by decide) (by omega) (by omega), hs_s]
                   · rw [f4 x x1 x3 x4, hs_O x2, f1.1 x x1, hs_O x3]
                   · rw [g4 q hq, hs_o (by decide), f1.2 q hq, hs_o (by omega)]
                   · rw [f4 344 (by decide) (by omega) (by omega), hs_k hq, f1.1 344 (by decide), hs_o (by omega)])
            · show jT _ _ 65 _ _ _ _
              refine tl_aload_n rfl rfl ?_
              show jT _ _ 66 _ _ _ _
              refine tl_aload_n rfl rfl ?_
              refine tl_iload_n rfl rfl ?_
              refine tl_v2i (c9 := 6) (k_zeros9 l hS hD (hs h1 344 wh (rn B N p).1) B N hB many (rn B N p).2 m64 mn (k1.at' (h' := hs h1 344 wh (rn B N p).1) (fun q hq => hs_o (by decide)) (hs_O (by decide))) (⟨by rw [hs_o (by omega), f1.1 r (by omega), hs_s]; rfl, fun i hi => absurd hi (by show ¬ i < 0; omega)⟩ : RL (hs h1 344 wh (rn B N p).1) r a [])) rfl rfl rfl rfl rfl (Nat.le_of_ble_eq_true rfl) (fun z4 h4 p4 => ?_)
              refine tl_goto (tgt := 80) rfl rfl ?_
              refine tl_iret rfl ?_
              -- leaf 1 at 80
              first
                | (exfalso; omega)
                | (obtain ⟨e4, k4, f4, g4⟩ := p4
                   refine ⟨_, rfl, ?_⟩
                   rw [rwR, if_neg (by omega), if_neg (by omega), if_neg (by omega), if_pos (by omega)]
                   refine ⟨e4, fun hz => ⟨(k4 hz).1, (k4 hz).2, ?_⟩, fun x x1 x2 x3 x4 => ?_, fun q hq => ?_, fun q hq => ?_⟩
                   · rw [f4 344 (by decide) (by omega) (by omega), hs_s]
                   · rw [f4 x x1 x3 x4, hs_O x2, f1.1 x x1, hs_O x3]
                   · rw [g4 q hq, hs_o (by decide), f1.2 q hq, hs_o (by omega)]
                   · rw [f4 344 (by decide) (by omega) (by omega), hs_k hq, f1.1 344 (by decide), hs_o (by omega)])
                | (obtain ⟨e4, k4, f4, g4⟩ := p4
                   refine ⟨_, rfl, ?_⟩
                   rw [rwR, if_neg (by omega), if_neg (by omega), if_neg (by omega), if_neg (by omega)]
                   refine ⟨e4, fun hz => ⟨(k4 hz).1, (k4 hz).2, ?_⟩, fun x x1 x2 x3 x4 => ?_, fun q hq => ?_, fun q hq => ?_⟩
                   · rw [f4 344 (by decide) (by omega) (by omega), hs_s]
                   · rw [f4 x x1 x3 x4, hs_O x2, f1.1 x x1, hs_O x3]
                   · rw [g4 q hq, hs_o (by decide), f1.2 q hq, hs_o (by omega)]
                   · rw [f4 344 (by decide) (by omega) (by omega), hs_k hq, f1.1 344 (by decide), hs_o (by omega)])
          · show jT _ _ 52 _ _ _ _
            refine tl_aload_n rfl rfl ?_
            refine tl_aload_n rfl rfl ?_
            show jT _ _ 54 _ _ _ _
            refine tl_iload_n rfl rfl ?_
            refine tl_v2i (c9 := 6) (k_plain9 l hS hD (hs h1 344 wh (rn B N p).1) B N hB many (rn B N p).2 m64 [] (by show 0 + many ≤ n; omega) (k1.at' (h' := hs h1 344 wh (rn B N p).1) (fun q hq => hs_o (by decide)) (hs_O (by decide))) (⟨by rw [hs_o (by omega), f1.1 r (by omega), hs_s]; rfl, fun i hi => absurd hi (by show ¬ i < 0; omega)⟩ : RL (hs h1 344 wh (rn B N p).1) r a [])) rfl rfl rfl rfl rfl (Nat.le_of_ble_eq_true rfl) (fun z4 h4 p4 => ?_)
            refine tl_iret rfl ?_
            -- leaf 2 at 58
            first
              | (exfalso; omega)
              | (obtain ⟨e4, k4, f4, g4⟩ := p4
                 refine ⟨_, rfl, ?_⟩
                 rw [rwR, if_neg (by omega), if_neg (by omega), if_pos (by omega)]
                 refine ⟨e4, fun hz => ⟨(k4 hz).1, (k4 hz).2, ?_⟩, fun x x1 x2 x3 x4 => ?_, fun q hq => ?_, fun q hq => ?_⟩
                 · rw [f4 344 (by decide) (by omega) (by omega), hs_s]
                 · rw [f4 x x1 x3 x4, hs_O x2, f1.1 x x1, hs_O x3]
                 · rw [g4 q hq, hs_o (by decide), f1.2 q hq, hs_o (by omega)]
                 · rw [f4 344 (by decide) (by omega) (by omega), hs_k hq, f1.1 344 (by decide), hs_o (by omega)])
    · show jT _ _ 24 _ _ _ _
      refine tl_iconst rfl ?_
      refine tl_iret rfl ?_
      -- leaf 3 at 25
      refine ⟨_, rfl, ?_⟩
      rw [rwR, if_neg (by omega), if_pos (by omega)]
      exact ⟨rfl, fun hz => absurd hz (by show ¬ (5 : Int) = 0; decide), fun x x1 x2 x3 x4 => by rw [f1.1 x x1, hs_O x3], fun q hq => by rw [f1.2 q hq, hs_o (by omega)], fun q hq => by rw [f1.1 344 (by decide), hs_o (by omega)]⟩
  · show jT _ _ 16 _ _ _ _
    refine tl_iconst rfl ?_
    refine tl_iret rfl ?_
    -- leaf 4 at 17
    refine ⟨_, rfl, ?_⟩
    rw [rwR, if_pos (by omega)]
    exact ⟨rfl, fun hz => absurd hz (by show ¬ (3 : Int) = 0; decide), fun x x1 x2 x3 x4 => by rw [f1.1 x x1, hs_O x3], fun q hq => by rw [f1.2 q hq, hs_o (by omega)], fun q hq => by rw [f1.1 344 (by decide), hs_o (by omega)]⟩
