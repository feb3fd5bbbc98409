/-! recipes: run, of the class -/
def CTb (h T : jH) (SD : List Int) (ns : Nat) : Prop := h 362 6 = (ns : Int) ∧ ns ≤ 24 ∧ (∀ i, i < ns → h 365 i = T 0 i ∧ h 366 i = T 1 i ∧ (T 0 i ≠ 4 → h 367 i = T 2 i) ∧ h 368 i = T 3 i ∧ (T 0 i = 4 → h 369 i = T 4 i)) ∧ RL h 370 371 SD ∧ SD.length ≤ 400
def FRu (h h' : jH) : Prop := (∀ x, x ≠ 362 → x ≠ 372 → x ≠ 373 → x ≠ 383 → x ≠ 384 → x ≠ 385 → h' x = h x) ∧ ∀ q, q ≠ 15 → h' 362 q = h 362 q
theorem FRu.rfl9 {h : jH} : FRu h h := ⟨fun _ _ _ _ _ _ _ => rfl, fun _ _ => rfl⟩
theorem FRu.trans {a b c : jH} (h1 : FRu a b) (h2 : FRu b c) : FRu a c := ⟨fun y a1 a2 a3 a4 a5 a6 => (h2.1 y a1 a2 a3 a4 a5 a6).trans (h1.1 y a1 a2 a3 a4 a5 a6), fun q a1 => (h2.2 q a1).trans (h1.2 q a1)⟩
theorem CTb.of {h h' T : jH} {SD : List Int} {ns : Nat} (k : CTb h T SD ns) (f : FRu h h') : CTb h' T SD ns := by
  obtain ⟨a, b, c, d, e⟩ := k
  refine ⟨by rw [f.2 6 (by decide)]; exact a, b, fun i hi => ?_, d.of (f.1 370 (by decide) (by decide) (by decide) (by decide) (by decide) (by decide)) (f.1 371 (by decide) (by decide) (by decide) (by decide) (by decide) (by decide)), e⟩
  rw [f.1 365 (by decide) (by decide) (by decide) (by decide) (by decide) (by decide), f.1 366 (by decide) (by decide) (by decide) (by decide) (by decide) (by decide), f.1 367 (by decide) (by decide) (by decide) (by decide) (by decide) (by decide), f.1 368 (by decide) (by decide) (by decide) (by decide) (by decide) (by decide), f.1 369 (by decide) (by decide) (by decide) (by decide) (by decide) (by decide)]
  exact c i hi
theorem OG.ad {h g : jH} {o a b n : Nat} {p v : Int} (k : OG h o a b g n) (d1 : a ≠ b) (d2 : o ≠ a) (d3 : o ≠ b) : OG (hs (hs (hs h a n p) b n v) o 2 ((n : Int) + 1)) o a b (hs (hs g 0 n p) 1 n v) (n + 1) := by
  refine ⟨by rw [hs_s]; omega, fun i hi => ?_⟩
  rw [hs_o (Ne.symm d2), hs_o (Ne.symm d3)]
  by_cases e : i = n
  · subst e
    rw [hs_o d1, hs_s, hs_s, hs_o (by decide), hs_s, hs_s]
    exact ⟨rfl, rfl⟩
  · rw [hs_k2 e, hs_k2 e, hs_k2 e, hs_k2 e, hs_k2 e, hs_k2 e, hs_k2 e, hs_k2 e]
    exact k.2 i (by omega)
set_option maxRecDepth 20000 in
set_option maxHeartbeats 1000000 in
theorem k_addAgain (l : Launch) (h : jH) (n : Nat) (bk : Int) (b1 : 1 ≤ bk) (b2 : bk ≤ (n : Int)) (n64 : n < 64) (en : h 383 2 = (n : Int)) : cV l 34 [.ref 383, .int (jI bk)] h (fun h' => h' = hs (hs (hs h 384 n (h 384 ((n : Int) - bk).toNat)) 385 n (h 385 ((n : Int) - bk).toNat)) 383 2 ((n : Int) + 1)) := by
  refine cV.of rfl rfl ?_
  refine tl_aload_n rfl rfl ?_
  refine tl_aload_n rfl rfl ?_
  refine tl_aload_n rfl rfl ?_
  refine tl_geti (c := 3) (k9 := 2) rfl rfl rfl ?_
  rw [en]
  refine tl_iload_n rfl rfl ?_
  refine tl_isub rfl ?_
  show jT _ _ 8 _ _ _ _
  refine tl_v1i (c9 := 3) (c_Or_placeAt l Or383 h ((n : Int) - bk) ⟨by omega, by omega⟩ (by omega) (by omega)) rfl rfl rfl rfl rfl (Nat.le_of_ble_eq_true rfl) (fun z1 h1 p1 => ?_)
  obtain ⟨q1, p1⟩ := p1
  have q1 := q1.symm
  subst q1
  rw [if_pos (by omega)] at p1
  subst p1
  refine tl_aload_n rfl rfl ?_
  refine tl_aload_n rfl rfl ?_
  refine tl_geti (c := 3) (k9 := 2) rfl rfl rfl ?_
  rw [en]
  refine tl_iload_n rfl rfl ?_
  refine tl_isub rfl ?_
  refine tl_v1i (c9 := 3) (c_Or_valueAt l Or383 h ((n : Int) - bk) ⟨by omega, by omega⟩ (by omega) (by omega)) rfl rfl rfl rfl rfl (Nat.le_of_ble_eq_true rfl) (fun z2 h2 p2 => ?_)
  obtain ⟨q2, p2⟩ := p2
  have q2 := q2.symm
  subst q2
  rw [if_pos (by omega)] at p2
  subst p2
  show jT _ _ 21 _ _ _ _
  refine tl_v2v (c9 := 3) (c_Or_add l Or383 h _ _ (by omega) (by omega)) rfl rfl rfl rfl rfl (Nat.le_of_ble_eq_true rfl) (fun h3 p3 => ?_)
  refine tl_ret rfl ?_
  -- leaf 0 at 24
  refine ⟨rfl, ?_⟩
  rw [p3, en, Int.toNat_natCast]
set_option maxRecDepth 20000 in
set_option maxHeartbeats 1000000 in
theorem k_addSpot (l : Launch) (h T : jH) (SD : List Int) (ns k n i : Nat) (g : jH) (ct : CTb h T SD ns) (hk : k < ns) (c4 : T 0 k ≠ 4) (rg9 : RNG T k SD.length) (hi : (i : Int) < T 1 k) (n64 : n < 64) (hg : OG h 383 384 385 g n) (ag : T 0 k = 3 → T 2 k ≤ (n : Int)) : cV l 97 [.ref 362, .int (jI (k : Int)), .int (jI (i : Int)), .ref 383] h (fun h' => h' = hs (hs (hs h 384 n (pl9 T k g n i)) 385 n (vl9 T SD k g n i)) 383 2 ((n : Int) + 1)) := by
  have n24 := ct.2.1
  have l4 := ct.2.2.2.2
  have tb := ct.2.2.1 k hk
  have en := hg.1
  obtain ⟨r0, r1, r4, ra, rb9, rc, rd, ry⟩ := rg9
  have tw := tb.2.2.1 c4
  have ra9 : T 0 k ≠ 0 ∨ (0 ≤ T 2 k ∧ T 2 k ≤ 63) := by by_cases c : T 0 k = 0; exact Or.inr (ra c); exact Or.inl c
  have rb8 : T 0 k ≠ 1 ∨ (0 ≤ T 2 k ∧ T 2 k ≤ 255) := by by_cases c : T 0 k = 1; exact Or.inr (rb9 c); exact Or.inl c
  have rc8 : T 0 k ≠ 2 ∨ (0 ≤ T 2 k ∧ T 2 k + T 1 k ≤ (SD.length : Int)) := by by_cases c : T 0 k = 2; exact Or.inr (rc c); exact Or.inl c
  have rd8 : T 0 k ≠ 3 ∨ (1 ≤ T 2 k ∧ T 2 k ≤ 64 ∧ T 2 k ≤ (n : Int)) := by by_cases c : T 0 k = 3; exact Or.inr ⟨(rd c).1, (rd c).2, ag c⟩; exact Or.inl c
  refine cV.of rfl rfl ?_
  refine tl_iload_n rfl rfl ?_
  refine tl_if_lt (tgt := 10) rfl rfl ⟨by omega, by omega⟩ (fun c1 => ?_) (fun c1 => ?_)
  · skip
    refine tl_ret rfl ?_
    -- leaf 0 at 10
    exfalso; omega
  · show jT _ _ 4 _ _ _ _
    refine tl_iload_n rfl rfl ?_
    refine tl_bipush rfl rfl ?_
    refine tl_icmp_lt (tgt := 11) rfl rfl ⟨by omega, by omega⟩ ⟨by omega, by omega⟩ (fun c2 => ?_) (fun c2 => ?_)
    · skip
      show jT _ _ 11 _ _ _ _
      refine tl_aload_n rfl rfl ?_
      refine tl_getr (c := 7) (k9 := 7) (b := 365) rfl rfl rfl rfl ?_
      refine tl_iload_n rfl rfl ?_
      refine tl_iald (n := 24) rfl rfl rfl (by omega) (by omega) ?_
      rw [Int.toNat_natCast, tb.1]
      by_cases ct3 : T 0 k < 0 ∨ 2 < T 0 k
      · refine tl_tabO (tgt := 102) rfl ⟨by omega, by omega⟩ ct3 rfl ?_
        refine tl_aload_n rfl rfl ?_
        refine tl_aload_n rfl rfl ?_
        show jT _ _ 104 _ _ _ _
        refine tl_getr (c := 7) (k9 := 9) (b := 367) rfl rfl rfl rfl ?_
        refine tl_iload_n rfl rfl ?_
        refine tl_iald (n := 24) rfl rfl rfl (by omega) (by omega) ?_
        rw [Int.toNat_natCast, tw]
        refine tl_v1v (c9 := 3) (k_addAgain l h n (T 2 k) (by omega) (by omega) n64 en) rfl rfl rfl rfl rfl (Nat.le_of_ble_eq_true rfl) (fun h3 p3 => ?_)
        refine tl_ret rfl ?_
        -- leaf 1 at 112
        first
          | (exfalso; omega)
          | (refine ⟨rfl, ?_⟩
             rw [p3, en, Int.toNat_natCast, pl9, vl9, if_pos (show T 0 k = 0 by omega), if_pos (show T 0 k = 0 by omega)])
          | (refine ⟨rfl, ?_⟩
             rw [p3, en, Int.toNat_natCast, pl9, vl9, if_neg (show ¬ T 0 k = 0 by omega), if_neg (show ¬ T 0 k = 0 by omega), if_pos (show T 0 k = 1 by omega), if_pos (show T 0 k = 1 by omega)])
          | (refine ⟨rfl, ?_⟩
             rw [p3, en, Int.toNat_natCast, pl9, vl9, if_neg (show ¬ T 0 k = 0 by omega), if_neg (show ¬ T 0 k = 0 by omega), if_neg (show ¬ T 0 k = 1 by omega), if_neg (show ¬ T 0 k = 1 by omega), if_pos (show T 0 k = 2 by omega), if_pos (show T 0 k = 2 by omega)])
          | (refine ⟨rfl, ?_⟩
             have g9 := hg.2 ((n : Int) - T 2 k).toNat (by omega)
             rw [p3, pl9, vl9, if_neg (show ¬ T 0 k = 0 by omega), if_neg (show ¬ T 0 k = 0 by omega), if_neg (show ¬ T 0 k = 1 by omega), if_neg (show ¬ T 0 k = 1 by omega), if_neg (show ¬ T 0 k = 2 by omega), if_neg (show ¬ T 0 k = 2 by omega), g9.1, g9.2])
      · have ct3b : T 0 k = 0 ∨ T 0 k = 1 ∨ T 0 k = 2 := by omega
        rcases ct3b with ct3b | ct3b | ct3b
        · refine tl_tabI (off := 27) (tgt := 44) rfl ⟨by omega, by omega⟩ (by omega) (by omega) (by rw [ct3b]; rfl) rfl ?_
          refine tl_aload_n rfl rfl ?_
          refine tl_aload_n rfl rfl ?_
          show jT _ _ 46 _ _ _ _
          refine tl_getr (c := 7) (k9 := 9) (b := 367) rfl rfl rfl rfl ?_
          refine tl_iload_n rfl rfl ?_
          refine tl_iald (n := 24) rfl rfl rfl (by omega) (by omega) ?_
          rw [Int.toNat_natCast, tw]
          refine tl_iload_n rfl rfl ?_
          refine tl_iadd rfl ?_
          refine tl_aload_n rfl rfl ?_
          refine tl_getr (c := 7) (k9 := 10) (b := 368) rfl rfl rfl rfl ?_
          show jT _ _ 57 _ _ _ _
          refine tl_iload_n rfl rfl ?_
          refine tl_iald (n := 24) rfl rfl rfl (by omega) (by omega) ?_
          rw [Int.toNat_natCast, tb.2.2.2.1]
          refine tl_v2v (c9 := 3) (c_Or_add l Or383 h _ _ (by omega) (by omega)) rfl rfl rfl rfl rfl (Nat.le_of_ble_eq_true rfl) (fun h3 p3 => ?_)
          refine tl_goto (tgt := 112) rfl rfl ?_
          refine tl_ret rfl ?_
          -- leaf 2 at 112
          first
            | (exfalso; omega)
            | (refine ⟨rfl, ?_⟩
               rw [p3, en, Int.toNat_natCast, pl9, vl9, if_pos (show T 0 k = 0 by omega), if_pos (show T 0 k = 0 by omega)])
            | (refine ⟨rfl, ?_⟩
               rw [p3, en, Int.toNat_natCast, pl9, vl9, if_neg (show ¬ T 0 k = 0 by omega), if_neg (show ¬ T 0 k = 0 by omega), if_pos (show T 0 k = 1 by omega), if_pos (show T 0 k = 1 by omega)])
            | (refine ⟨rfl, ?_⟩
               rw [p3, en, Int.toNat_natCast, pl9, vl9, if_neg (show ¬ T 0 k = 0 by omega), if_neg (show ¬ T 0 k = 0 by omega), if_neg (show ¬ T 0 k = 1 by omega), if_neg (show ¬ T 0 k = 1 by omega), if_pos (show T 0 k = 2 by omega), if_pos (show T 0 k = 2 by omega)])
            | (refine ⟨rfl, ?_⟩
               have g9 := hg.2 ((n : Int) - T 2 k).toNat (by omega)
               rw [p3, pl9, vl9, if_neg (show ¬ T 0 k = 0 by omega), if_neg (show ¬ T 0 k = 0 by omega), if_neg (show ¬ T 0 k = 1 by omega), if_neg (show ¬ T 0 k = 1 by omega), if_neg (show ¬ T 0 k = 2 by omega), if_neg (show ¬ T 0 k = 2 by omega), g9.1, g9.2])
        · refine tl_tabI (off := 48) (tgt := 65) rfl ⟨by omega, by omega⟩ (by omega) (by omega) (by rw [ct3b]; rfl) rfl ?_
          refine tl_aload_n rfl rfl ?_
          refine tl_iconst rfl ?_
          show jT _ _ 67 _ _ _ _
          refine tl_aload_n rfl rfl ?_
          refine tl_getr (c := 7) (k9 := 9) (b := 367) rfl rfl rfl rfl ?_
          refine tl_iload_n rfl rfl ?_
          refine tl_iald (n := 24) rfl rfl rfl (by omega) (by omega) ?_
          rw [Int.toNat_natCast, tw]
          refine tl_v2v (c9 := 3) (c_Or_add l Or383 h _ _ (by omega) (by omega)) rfl rfl rfl rfl rfl (Nat.le_of_ble_eq_true rfl) (fun h3 p3 => ?_)
          refine tl_goto (tgt := 112) rfl rfl ?_
          refine tl_ret rfl ?_
          -- leaf 3 at 112
          first
            | (exfalso; omega)
            | (refine ⟨rfl, ?_⟩
               rw [p3, en, Int.toNat_natCast, pl9, vl9, if_pos (show T 0 k = 0 by omega), if_pos (show T 0 k = 0 by omega)])
            | (refine ⟨rfl, ?_⟩
               rw [p3, en, Int.toNat_natCast, pl9, vl9, if_neg (show ¬ T 0 k = 0 by omega), if_neg (show ¬ T 0 k = 0 by omega), if_pos (show T 0 k = 1 by omega), if_pos (show T 0 k = 1 by omega)])
            | (refine ⟨rfl, ?_⟩
               rw [p3, en, Int.toNat_natCast, pl9, vl9, if_neg (show ¬ T 0 k = 0 by omega), if_neg (show ¬ T 0 k = 0 by omega), if_neg (show ¬ T 0 k = 1 by omega), if_neg (show ¬ T 0 k = 1 by omega), if_pos (show T 0 k = 2 by omega), if_pos (show T 0 k = 2 by omega)])
            | (refine ⟨rfl, ?_⟩
               have g9 := hg.2 ((n : Int) - T 2 k).toNat (by omega)
               rw [p3, pl9, vl9, if_neg (show ¬ T 0 k = 0 by omega), if_neg (show ¬ T 0 k = 0 by omega), if_neg (show ¬ T 0 k = 1 by omega), if_neg (show ¬ T 0 k = 1 by omega), if_neg (show ¬ T 0 k = 2 by omega), if_neg (show ¬ T 0 k = 2 by omega), g9.1, g9.2])
        · refine tl_tabI (off := 62) (tgt := 79) rfl ⟨by omega, by omega⟩ (by omega) (by omega) (by rw [ct3b]; rfl) rfl ?_
          show jT _ _ 79 _ _ _ _
          refine tl_aload_n rfl rfl ?_
          refine tl_iconst rfl ?_
          refine tl_aload_n rfl rfl ?_
          refine tl_getr (c := 7) (k9 := 12) (b := 370) rfl rfl rfl rfl ?_
          refine tl_aload_n rfl rfl ?_
          refine tl_getr (c := 7) (k9 := 9) (b := 367) rfl rfl rfl rfl ?_
          refine tl_iload_n rfl rfl ?_
          show jT _ _ 90 _ _ _ _
          refine tl_iald (n := 24) rfl rfl rfl (by omega) (by omega) ?_
          rw [Int.toNat_natCast, tw]
          refine tl_iload_n rfl rfl ?_
          refine tl_iadd rfl ?_
          refine tl_v1i (c9 := 8) (c_Row_get l rs370 h (T 2 k + (i : Int)) (by rw [ct.2.2.2.1.1]; omega) (by rw [ct.2.2.2.1.1]; omega) ⟨by omega, by omega⟩) rfl rfl rfl rfl rfl (Nat.le_of_ble_eq_true rfl) (fun z1 h1 p1 => ?_)
          obtain ⟨q1, p1⟩ := p1
          have q1 := q1.symm
          subst q1
          have rc9 := rc (by omega)
          rw [if_pos (by rw [ct.2.2.2.1.1]; omega), ct.2.2.2.1.2 _ (by omega)] at p1
          subst p1
          refine tl_v2v (c9 := 3) (c_Or_add l Or383 h _ _ (by omega) (by omega)) rfl rfl rfl rfl rfl (Nat.le_of_ble_eq_true rfl) (fun h3 p3 => ?_)
          refine tl_goto (tgt := 112) rfl rfl ?_
          refine tl_ret rfl ?_
          -- leaf 4 at 112
          first
            | (exfalso; omega)
            | (refine ⟨rfl, ?_⟩
               rw [p3, en, Int.toNat_natCast, pl9, vl9, if_pos (show T 0 k = 0 by omega), if_pos (show T 0 k = 0 by omega)])
            | (refine ⟨rfl, ?_⟩
               rw [p3, en, Int.toNat_natCast, pl9, vl9, if_neg (show ¬ T 0 k = 0 by omega), if_neg (show ¬ T 0 k = 0 by omega), if_pos (show T 0 k = 1 by omega), if_pos (show T 0 k = 1 by omega)])
            | (refine ⟨rfl, ?_⟩
               rw [p3, en, Int.toNat_natCast, pl9, vl9, if_neg (show ¬ T 0 k = 0 by omega), if_neg (show ¬ T 0 k = 0 by omega), if_neg (show ¬ T 0 k = 1 by omega), if_neg (show ¬ T 0 k = 1 by omega), if_pos (show T 0 k = 2 by omega), if_pos (show T 0 k = 2 by omega)])
            | (refine ⟨rfl, ?_⟩
               have g9 := hg.2 ((n : Int) - T 2 k).toNat (by omega)
               rw [p3, pl9, vl9, if_neg (show ¬ T 0 k = 0 by omega), if_neg (show ¬ T 0 k = 0 by omega), if_neg (show ¬ T 0 k = 1 by omega), if_neg (show ¬ T 0 k = 1 by omega), if_neg (show ¬ T 0 k = 2 by omega), if_neg (show ¬ T 0 k = 2 by omega), g9.1, g9.2])
    · show jT _ _ 10 _ _ _ _
      show jT _ _ 10 _ _ _ _
      refine tl_ret rfl ?_
      -- leaf 5 at 10
      exfalso; omega
set_option maxRecDepth 20000 in
set_option maxHeartbeats 1000000 in
theorem k_enterLoop (l : Launch) (h : jH) (d : Nat) (k v : Int) (d4 : d < 4) (ed : h 362 15 = (d : Int)) : cV l 96 [.ref 362, .int (jI k), .int (jI v)] h (fun h' => h' = hs (hs (hs h 372 d k) 373 d v) 362 15 ((d : Int) + 1)) := by
  refine cV.of rfl rfl ?_
  refine tl_aload_n rfl rfl ?_
  refine tl_geti (c := 7) (k9 := 15) rfl rfl rfl ?_
  rw [ed]
  refine tl_if_lt (tgt := 45) rfl rfl ⟨by omega, by omega⟩ (fun c1 => ?_) (fun c1 => ?_)
  · skip
    refine tl_ret rfl ?_
    -- leaf 0 at 45
    first
      | (exfalso; omega)
      | exact ⟨rfl, rfl⟩
  · show jT _ _ 7 _ _ _ _
    refine tl_aload_n rfl rfl ?_
    refine tl_geti (c := 7) (k9 := 15) rfl rfl rfl ?_
    rw [ed]
    show jT _ _ 11 _ _ _ _
    refine tl_iconst rfl ?_
    refine tl_icmp_ge (tgt := 45) rfl rfl ⟨by omega, by omega⟩ ⟨by omega, by omega⟩ (fun c2 => ?_) (fun c2 => ?_)
    · skip
      refine tl_ret rfl ?_
      -- leaf 1 at 45
      first
        | (exfalso; omega)
        | exact ⟨rfl, rfl⟩
    · show jT _ _ 15 _ _ _ _
      refine tl_aload_n rfl rfl ?_
      refine tl_getr (c := 7) (k9 := 13) (b := 372) rfl rfl rfl rfl ?_
      refine tl_aload_n rfl rfl ?_
      refine tl_geti (c := 7) (k9 := 15) rfl rfl rfl ?_
      rw [ed]
      show jT _ _ 23 _ _ _ _
      refine tl_iload_n rfl rfl ?_
      refine tl_iast (n := 4) rfl rfl rfl (by omega) (by omega) ?_
      rw [Int.toNat_natCast]
      refine tl_aload_n rfl rfl ?_
      refine tl_getr (c := 7) (k9 := 14) (b := 373) rfl rfl rfl rfl ?_
      refine tl_aload_n rfl rfl ?_
      refine tl_geti (c := 7) (k9 := 15) rfl rfl rfl ?_
      rw [hs_o (by decide), ed]
      refine tl_iload_n rfl rfl ?_
      show jT _ _ 34 _ _ _ _
      refine tl_iast (n := 4) rfl rfl rfl (by omega) (by omega) ?_
      rw [Int.toNat_natCast]
      refine tl_aload_n rfl rfl ?_
      refine tl_dup rfl rfl ?_
      refine tl_geti (c := 7) (k9 := 15) rfl rfl rfl ?_
      rw [hs_o (by decide), hs_o (by decide), ed]
      refine tl_iconst rfl ?_
      refine tl_iadd rfl ?_
      refine tl_puti (c := 7) (k9 := 15) rfl rfl rfl rfl ?_
      show jT _ _ 45 _ _ _ _
      refine tl_ret rfl ?_
      -- leaf 2 at 45
      first
        | (exfalso; omega)
        | exact ⟨rfl, rfl⟩
set_option maxRecDepth 20000 in
set_option maxHeartbeats 1000000 in
theorem k_ru_lp (l : Launch) (h T : jH) (SD : List Int) (ns k n : Nat) (g : jH) (ct : CTb h T SD ns) (kn : k < ns) (c4 : T 0 k ≠ 4) (rg9 : RNG T k SD.length) (n64 : (n : Int) + T 1 k ≤ 64) (ag : T 0 k = 3 → T 2 k ≤ (n : Int)) (P : Option Value → jH → Prop) (hP : ∀ mem, (OG mem 383 384 385 (gA T SD k g n (T 1 k).toNat) (n + (T 1 k).toNat) ∧ ∀ x, x ≠ 383 → x ≠ 384 → x ≠ 385 → mem x = h x) → P (some (.int (jI 0))) mem) : ∀ (m : Nat) (i : Nat) (mem : jH), (T 1 k).toNat - i < m → ((i : Int) ≤ T 1 k ∧ OG mem 383 384 385 (gA T SD k g n i) (n + i) ∧ ∀ x, x ≠ 383 → x ≠ 384 → x ≠ 385 → mem x = h x) → jT l 95 111 [some (.ref 362), some (.int (jI ((k : Int)))), some (.ref 2), some (.ref 383), some (.int (jI (T 1 k))), some (.int (jI ((i : Int))))] [] mem P := by
  have r1 := rg9.2.1
  intro m
  induction m with
  | zero => intro i mem hk; omega
  | succ m ih =>
    intro i mem hk hi
    obtain ⟨i0, og, fr⟩ := hi
    have ctm : CTb mem T SD ns := ct.of ⟨fun x _ _ _ a b c => fr x a b c, fun q _ => by rw [fr 362 (by decide) (by decide) (by decide)]⟩
    refine tl_iload rfl rfl ?_
    refine tl_iload rfl rfl ?_
    refine tl_icmp_ge (tgt := 132) rfl rfl ⟨by omega, by omega⟩ ⟨by omega, by omega⟩ (fun c1 => ?_) (fun c1 => ?_)
    · skip
      refine tl_iconst rfl ?_
      refine tl_iret rfl ?_
      -- leaf 0 at 133
      have e : (T 1 k).toNat = i := by omega
      exact hP mem ⟨by rw [e]; exact og, fr⟩
    · show jT _ _ 118 _ _ _ _
      refine tl_aload_n rfl rfl ?_
      show jT _ _ 119 _ _ _ _
      refine tl_iload_n rfl rfl ?_
      refine tl_iload rfl rfl ?_
      refine tl_aload_n rfl rfl ?_
      refine tl_v3v (c9 := 7) (k_addSpot l mem T SD ns k (n + i) i (gA T SD k g n i) ctm kn c4 rg9 (by omega) (by omega) og (fun q => by have := ag q; omega)) rfl rfl rfl rfl rfl (Nat.le_of_ble_eq_true rfl) (fun h1 p1 => ?_)
      refine tl_iinc rfl rfl rfl ?_
      refine tl_goto (tgt := 111) rfl rfl ?_
      show jT _ _ 111 _ _ _ _
      -- leaf 1 at 111
      subst p1
      refine ih (i + 1) _ (by omega) ⟨by omega, ?_, fun x a b c => by rw [hs_O a, hs_O c, hs_O b]; exact fr x a b c⟩
      rw [gA, show n + (i + 1) = n + i + 1 by omega]
      exact og.ad (by decide) (by decide) (by decide)
set_option maxRecDepth 20000 in
set_option maxHeartbeats 1000000 in
theorem k_runStep (l : Launch) (h T : jH) (SD : List Int) (ns k n d : Nat) (g : jH) (R5 : Int) (ct : CTb h T SD ns) (hk : k < ns) (rg9 : RNG T k SD.length) (n64 : n ≤ 64) (hg : OG h 383 384 385 g n) (ed : h 362 15 = (d : Int)) (d4 : T 0 k = 4 → d < 4) (e5 : h 2 1 = R5) (r50 : 0 ≤ R5) (r51 : R5 ≤ 64) : cI l 95 [.ref 362, .int (jI (k : Int)), .ref 2, .ref 383] h (fun z h' => ((T 0 k = 4 → z = 0 ∧ h' = hs (hs (hs h 372 d (k : Int)) 373 d (T 1 k)) 362 15 ((d : Int) + 1)) ∧ (T 0 k ≠ 4 → z = wh9 T R5 k n ∧ (wh9 T R5 k n ≠ 0 → h' = h) ∧ (wh9 T R5 k n = 0 → OG h' 383 384 385 (gA T SD k g n (T 1 k).toNat) (n + (T 1 k).toNat) ∧ ∀ x, x ≠ 383 → x ≠ 384 → x ≠ 385 → h' x = h x)))) := by
  have n24 := ct.2.1
  have tb := ct.2.2.1 k hk
  have en := hg.1
  have rg8 := rg9
  obtain ⟨r0, r1, r4, ra, rb9, rc, rd, ry⟩ := rg8
  have wc := wh9_c (T := T) (R5 := R5) (k := k) (n := n)
  have ra9 : T 0 k ≠ 0 ∨ (0 ≤ T 2 k ∧ T 2 k ≤ 63) := by by_cases c : T 0 k = 0; exact Or.inr (ra c); exact Or.inl c
  have rd8 : T 0 k ≠ 3 ∨ (1 ≤ T 2 k ∧ T 2 k ≤ 64) := by by_cases c : T 0 k = 3; exact Or.inr (rd c); exact Or.inl c
  have w4 : (T 0 k = 0 ∧ R5 < T 2 k + T 1 k) ∨ (T 0 k = 3 ∧ (n : Int) < T 2 k) → wh9 T R5 k n = -4 := fun q => by rw [wh9, if_pos q]
  have w5 : ¬ ((T 0 k = 0 ∧ R5 < T 2 k + T 1 k) ∨ (T 0 k = 3 ∧ (n : Int) < T 2 k)) → 64 < (n : Int) + T 1 k → wh9 T R5 k n = -5 := fun q q2 => by rw [wh9, if_neg q, if_pos q2]
  have w0 : ¬ ((T 0 k = 0 ∧ R5 < T 2 k + T 1 k) ∨ (T 0 k = 3 ∧ (n : Int) < T 2 k)) → ¬ 64 < (n : Int) + T 1 k → wh9 T R5 k n = 0 := fun q q2 => by rw [wh9, if_neg q, if_neg q2]
  refine cI.of rfl rfl ?_
  refine tl_iload_n rfl rfl ?_
  refine tl_if_lt (tgt := 10) rfl rfl ⟨by omega, by omega⟩ (fun c1 => ?_) (fun c1 => ?_)
  · skip
    refine tl_iconst rfl ?_
    refine tl_iret rfl ?_
    -- leaf 0 at 11
    exfalso; omega
  · show jT _ _ 4 _ _ _ _
    refine tl_iload_n rfl rfl ?_
    refine tl_bipush rfl rfl ?_
    show jT _ _ 7 _ _ _ _
    refine tl_icmp_lt (tgt := 12) rfl rfl ⟨by omega, by omega⟩ ⟨by omega, by omega⟩ (fun c2 => ?_) (fun c2 => ?_)
    · skip
      refine tl_aload_n rfl rfl ?_
      refine tl_getr (c := 7) (k9 := 8) (b := 366) rfl rfl rfl rfl ?_
      refine tl_iload_n rfl rfl ?_
      refine tl_iald (n := 24) rfl rfl rfl (by omega) (by omega) ?_
      rw [Int.toNat_natCast, tb.2.1]
      refine tl_istore rfl (Nat.le_of_ble_eq_true rfl) rfl ?_
      refine tl_aload_n rfl rfl ?_
      show jT _ _ 21 _ _ _ _
      refine tl_getr (c := 7) (k9 := 7) (b := 365) rfl rfl rfl rfl ?_
      refine tl_iload_n rfl rfl ?_
      refine tl_iald (n := 24) rfl rfl rfl (by omega) (by omega) ?_
      rw [Int.toNat_natCast, tb.1]
      refine tl_iconst rfl ?_
      refine tl_icmp_ne (tgt := 39) rfl rfl ⟨by omega, by omega⟩ ⟨by omega, by omega⟩ (fun c3 => ?_) (fun c3 => ?_)
      · skip
        refine tl_aload_n rfl rfl ?_
        refine tl_getr (c := 7) (k9 := 7) (b := 365) rfl rfl rfl rfl ?_
        show jT _ _ 43 _ _ _ _
        refine tl_iload_n rfl rfl ?_
        refine tl_iald (n := 24) rfl rfl rfl (by omega) (by omega) ?_
        rw [Int.toNat_natCast, tb.1]
        refine tl_if_ne (tgt := 67) rfl rfl ⟨by omega, by omega⟩ (fun c4 => ?_) (fun c4 => ?_)
        · skip
          refine tl_aload_n rfl rfl ?_
          refine tl_getr (c := 7) (k9 := 7) (b := 365) rfl rfl rfl rfl ?_
          refine tl_iload_n rfl rfl ?_
          refine tl_iald (n := 24) rfl rfl rfl (by omega) (by omega) ?_
          rw [Int.toNat_natCast, tb.1]
          show jT _ _ 73 _ _ _ _
          refine tl_iconst rfl ?_
          refine tl_icmp_ne (tgt := 93) rfl rfl ⟨by omega, by omega⟩ ⟨by omega, by omega⟩ (fun c5 => ?_) (fun c5 => ?_)
          · skip
            refine tl_iload rfl rfl ?_
            refine tl_bipush rfl rfl ?_
            refine tl_aload_n rfl rfl ?_
            refine tl_geti (c := 3) (k9 := 2) rfl rfl rfl ?_
            rw [en]
            refine tl_isub rfl ?_
            show jT _ _ 102 _ _ _ _
            refine tl_icmp_le (tgt := 108) rfl rfl ⟨by omega, by omega⟩ ⟨by omega, by omega⟩ (fun c6 => ?_) (fun c6 => ?_)
            · skip
              refine tl_iconst rfl ?_
              refine tl_istore rfl (Nat.le_of_ble_eq_true rfl) rfl ?_
              show jT _ _ 111 _ _ _ _
              -- leaf 1 at 111
              have w := w0 (by omega) (by omega)
              have c4 : T 0 k ≠ 4 := by omega
              exact k_ru_lp l h T SD ns k n g ct hk c4 rg9 (by omega) (fun q => by omega) _ (fun mem p => ⟨0, rfl, fun q => absurd q c4, fun _ => ⟨w.symm, fun q => absurd w q, fun _ => p⟩⟩) _ 0 h (Nat.lt_succ_self _) ⟨by omega, hg, fun _ _ _ _ => rfl⟩
            · show jT _ _ 105 _ _ _ _
              refine tl_bipush rfl rfl ?_
              refine tl_iret rfl ?_
              -- leaf 2 at 107
              have w := w5 (by omega) (by omega)
              exact ⟨-5, rfl, fun q => by exfalso; omega, fun _ => ⟨w.symm, fun _ => rfl, fun q => by exfalso; omega⟩⟩
          · show jT _ _ 77 _ _ _ _
            refine tl_aload_n rfl rfl ?_
            refine tl_geti (c := 3) (k9 := 2) rfl rfl rfl ?_
            rw [en]
            show jT _ _ 81 _ _ _ _
            refine tl_aload_n rfl rfl ?_
            refine tl_getr (c := 7) (k9 := 9) (b := 367) rfl rfl rfl rfl ?_
            refine tl_iload_n rfl rfl ?_
            refine tl_iald (n := 24) rfl rfl rfl (by omega) (by omega) ?_
            rw [Int.toNat_natCast, tb.2.2.1 (by omega)]
            refine tl_icmp_ge (tgt := 93) rfl rfl ⟨by omega, by omega⟩ ⟨by omega, by omega⟩ (fun c7 => ?_) (fun c7 => ?_)
            · skip
              refine tl_iload rfl rfl ?_
              refine tl_bipush rfl rfl ?_
              show jT _ _ 97 _ _ _ _
              refine tl_aload_n rfl rfl ?_
              refine tl_geti (c := 3) (k9 := 2) rfl rfl rfl ?_
              rw [en]
              refine tl_isub rfl ?_
              refine tl_icmp_le (tgt := 108) rfl rfl ⟨by omega, by omega⟩ ⟨by omega, by omega⟩ (fun c8 => ?_) (fun c8 => ?_)
              · skip
                refine tl_iconst rfl ?_
                refine tl_istore rfl (Nat.le_of_ble_eq_true rfl) rfl ?_
                show jT _ _ 111 _ _ _ _
                -- leaf 3 at 111
                have w := w0 (by omega) (by omega)
                have c4 : T 0 k ≠ 4 := by omega
                exact k_ru_lp l h T SD ns k n g ct hk c4 rg9 (by omega) (fun q => by omega) _ (fun mem p => ⟨0, rfl, fun q => absurd q c4, fun _ => ⟨w.symm, fun q => absurd w q, fun _ => p⟩⟩) _ 0 h (Nat.lt_succ_self _) ⟨by omega, hg, fun _ _ _ _ => rfl⟩
              · show jT _ _ 105 _ _ _ _
                refine tl_bipush rfl rfl ?_
                show jT _ _ 107 _ _ _ _
                refine tl_iret rfl ?_
                -- leaf 4 at 107
                have w := w5 (by omega) (by omega)
                exact ⟨-5, rfl, fun q => by exfalso; omega, fun _ => ⟨w.symm, fun _ => rfl, fun q => by exfalso; omega⟩⟩
            · show jT _ _ 90 _ _ _ _
              refine tl_bipush rfl rfl ?_
              refine tl_iret rfl ?_
              -- leaf 5 at 92
              have w := w4 (by omega)
              exact ⟨-4, rfl, fun q => by exfalso; omega, fun _ => ⟨w.symm, fun _ => rfl, fun q => by exfalso; omega⟩⟩
        · show jT _ _ 48 _ _ _ _
          refine tl_iload rfl rfl ?_
          refine tl_aload_n rfl rfl ?_
          refine tl_geti (c := 8) (k9 := 1) rfl rfl rfl ?_
          rw [e5]
          refine tl_aload_n rfl rfl ?_
          show jT _ _ 55 _ _ _ _
          refine tl_getr (c := 7) (k9 := 9) (b := 367) rfl rfl rfl rfl ?_
          refine tl_iload_n rfl rfl ?_
          refine tl_iald (n := 24) rfl rfl rfl (by omega) (by omega) ?_
          rw [Int.toNat_natCast, tb.2.2.1 (by omega)]
          refine tl_isub rfl ?_
          refine tl_icmp_le (tgt := 67) rfl rfl ⟨by omega, by omega⟩ ⟨by omega, by omega⟩ (fun c9 => ?_) (fun c9 => ?_)
          · skip
            refine tl_aload_n rfl rfl ?_
            refine tl_getr (c := 7) (k9 := 7) (b := 365) rfl rfl rfl rfl ?_
            show jT _ _ 71 _ _ _ _
            refine tl_iload_n rfl rfl ?_
            refine tl_iald (n := 24) rfl rfl rfl (by omega) (by omega) ?_
            rw [Int.toNat_natCast, tb.1]
            refine tl_iconst rfl ?_
            refine tl_icmp_ne (tgt := 93) rfl rfl ⟨by omega, by omega⟩ ⟨by omega, by omega⟩ (fun c10 => ?_) (fun c10 => ?_)
            · skip
              refine tl_iload rfl rfl ?_
              refine tl_bipush rfl rfl ?_
              refine tl_aload_n rfl rfl ?_
              show jT _ _ 98 _ _ _ _
              refine tl_geti (c := 3) (k9 := 2) rfl rfl rfl ?_
              rw [en]
              refine tl_isub rfl ?_
              refine tl_icmp_le (tgt := 108) rfl rfl ⟨by omega, by omega⟩ ⟨by omega, by omega⟩ (fun c11 => ?_) (fun c11 => ?_)
              · skip
                refine tl_iconst rfl ?_
                refine tl_istore rfl (Nat.le_of_ble_eq_true rfl) rfl ?_
                show jT _ _ 111 _ _ _ _
                -- leaf 6 at 111
                have w := w0 (by omega) (by omega)
                have c4 : T 0 k ≠ 4 := by omega
                exact k_ru_lp l h T SD ns k n g ct hk c4 rg9 (by omega) (fun q => by omega) _ (fun mem p => ⟨0, rfl, fun q => absurd q c4, fun _ => ⟨w.symm, fun q => absurd w q, fun _ => p⟩⟩) _ 0 h (Nat.lt_succ_self _) ⟨by omega, hg, fun _ _ _ _ => rfl⟩
              · show jT _ _ 105 _ _ _ _
                refine tl_bipush rfl rfl ?_
                refine tl_iret rfl ?_
                -- leaf 7 at 107
                have w := w5 (by omega) (by omega)
                exact ⟨-5, rfl, fun q => by exfalso; omega, fun _ => ⟨w.symm, fun _ => rfl, fun q => by exfalso; omega⟩⟩
            · show jT _ _ 77 _ _ _ _
              show jT _ _ 77 _ _ _ _
              refine tl_aload_n rfl rfl ?_
              refine tl_geti (c := 3) (k9 := 2) rfl rfl rfl ?_
              rw [en]
              refine tl_aload_n rfl rfl ?_
              refine tl_getr (c := 7) (k9 := 9) (b := 367) rfl rfl rfl rfl ?_
              refine tl_iload_n rfl rfl ?_
              refine tl_iald (n := 24) rfl rfl rfl (by omega) (by omega) ?_
              rw [Int.toNat_natCast, tb.2.2.1 (by omega)]
              refine tl_icmp_ge (tgt := 93) rfl rfl ⟨by omega, by omega⟩ ⟨by omega, by omega⟩ (fun c12 => ?_) (fun c12 => ?_)
              · skip
                show jT _ _ 93 _ _ _ _
                refine tl_iload rfl rfl ?_
                refine tl_bipush rfl rfl ?_
                refine tl_aload_n rfl rfl ?_
                refine tl_geti (c := 3) (k9 := 2) rfl rfl rfl ?_
                rw [en]
                refine tl_isub rfl ?_
                refine tl_icmp_le (tgt := 108) rfl rfl ⟨by omega, by omega⟩ ⟨by omega, by omega⟩ (fun c13 => ?_) (fun c13 => ?_)
                · skip
                  refine tl_iconst rfl ?_
                  show jT _ _ 109 _ _ _ _
                  refine tl_istore rfl (Nat.le_of_ble_eq_true rfl) rfl ?_
                  show jT _ _ 111 _ _ _ _
                  -- leaf 8 at 111
                  have w := w0 (by omega) (by omega)
                  have c4 : T 0 k ≠ 4 := by omega
                  exact k_ru_lp l h T SD ns k n g ct hk c4 rg9 (by omega) (fun q => by omega) _ (fun mem p => ⟨0, rfl, fun q => absurd q c4, fun _ => ⟨w.symm, fun q => absurd w q, fun _ => p⟩⟩) _ 0 h (Nat.lt_succ_self _) ⟨by omega, hg, fun _ _ _ _ => rfl⟩
                · show jT _ _ 105 _ _ _ _
                  refine tl_bipush rfl rfl ?_
                  refine tl_iret rfl ?_
                  -- leaf 9 at 107
                  have w := w5 (by omega) (by omega)
                  exact ⟨-5, rfl, fun q => by exfalso; omega, fun _ => ⟨w.symm, fun _ => rfl, fun q => by exfalso; omega⟩⟩
              · show jT _ _ 90 _ _ _ _
                refine tl_bipush rfl rfl ?_
                refine tl_iret rfl ?_
                -- leaf 10 at 92
                have w := w4 (by omega)
                exact ⟨-4, rfl, fun q => by exfalso; omega, fun _ => ⟨w.symm, fun _ => rfl, fun q => by exfalso; omega⟩⟩
          · show jT _ _ 64 _ _ _ _
            refine tl_bipush rfl rfl ?_
            refine tl_iret rfl ?_
            -- leaf 11 at 66
            have w := w4 (by omega)
            exact ⟨-4, rfl, fun q => by exfalso; omega, fun _ => ⟨w.symm, fun _ => rfl, fun q => by exfalso; omega⟩⟩
      · show jT _ _ 30 _ _ _ _
        show jT _ _ 30 _ _ _ _
        refine tl_aload_n rfl rfl ?_
        refine tl_iload_n rfl rfl ?_
        refine tl_iload rfl rfl ?_
        refine tl_v2v (c9 := 7) (k_enterLoop l h d (k : Int) (T 1 k) (d4 (by omega)) ed) rfl rfl rfl rfl rfl (Nat.le_of_ble_eq_true rfl) (fun h1 p1 => ?_)
        refine tl_iconst rfl ?_
        refine tl_iret rfl ?_
        -- leaf 12 at 38
        exact ⟨0, rfl, fun _ => ⟨rfl, p1⟩, fun q => absurd (show T 0 k = 4 by omega) q⟩
    · show jT _ _ 10 _ _ _ _
      refine tl_iconst rfl ?_
      show jT _ _ 11 _ _ _ _
      refine tl_iret rfl ?_
      -- leaf 13 at 11
      exfalso; omega
set_option maxRecDepth 20000 in
set_option maxHeartbeats 1000000 in
theorem k_sb_lp (l : Launch) (h T : jH) (k : Nat) (k24 : k < 24) (OP : Nat → Int) (X : Nat × Nat × (Nat → Int)) (P : Option Value → jH → Prop) (hP : ∀ mem, (mem 362 15 = (X.2.1 : Int) ∧ (∀ e, e < X.2.1 → mem 373 e = X.2.2 e) ∧ (∀ x, x ≠ 362 → x ≠ 373 → mem x = h x) ∧ ∀ q, q ≠ 15 → mem 362 q = h 362 q) → P (some (.int (jI (X.1 : Int)))) mem) : ∀ (m : Nat) (r : Nat) (d : Nat) (TU : Nat → Int) (mem : jH) (y4 : Option Value), d < m → (r + d ≤ 4 ∧ mem 362 15 = (d : Int) ∧ (∀ e, e < d → mem 372 e = OP e ∧ 0 ≤ OP e ∧ OP e < 24 ∧ mem 369 (OP e).toNat = T 4 (OP e).toNat ∧ 0 ≤ T 4 (OP e).toNat ∧ T 4 (OP e).toNat ≤ 24 ∧ mem 373 e = TU e ∧ 1 ≤ TU e ∧ TU e ≤ 9) ∧ cl9 T d (k + 1) OP TU = X ∧ (∀ x, x ≠ 362 → x ≠ 373 → mem x = h x) ∧ ∀ q, q ≠ 15 → mem 362 q = h 362 q) → jT l 94 6 [some (.ref 362), some (.int (jI ((k : Int)))), some (.int (jI (((k : Int) + 1)))), some (.int (jI ((r : Int)))), y4] [] mem P := by
  intro m
  induction m with
  | zero => intro r d TU mem y4 hk; omega
  | succ m ih =>
    intro r d TU mem y4 hk hi
    obtain ⟨r4, ed, op, eX, fr, fr2⟩ := hi
    have o1 : d = 0 ∨ (0 < d ∧ mem 372 (d - 1) = OP (d - 1) ∧ 0 ≤ OP (d - 1) ∧ OP (d - 1) < 24 ∧ mem 369 (OP (d - 1)).toNat = T 4 (OP (d - 1)).toNat ∧ 0 ≤ T 4 (OP (d - 1)).toNat ∧ T 4 (OP (d - 1)).toNat ≤ 24 ∧ mem 373 (d - 1) = TU (d - 1) ∧ 1 ≤ TU (d - 1) ∧ TU (d - 1) ≤ 9) := by by_cases c : d = 0; exact Or.inl c; exact Or.inr ⟨by omega, op (d - 1) (by omega)⟩
    refine tl_iload_n rfl rfl ?_
    refine tl_iconst rfl ?_
    refine tl_icmp_ge (tgt := 114) rfl rfl ⟨by omega, by omega⟩ ⟨by omega, by omega⟩ (fun c1 => ?_) (fun c1 => ?_)
    · skip
      refine tl_iload_n rfl rfl ?_
      refine tl_iret rfl ?_
      -- leaf 0 at 115
      first
        | (exfalso; omega)
        | (have e : d = 0 := by omega
           subst e
           rw [cl9] at eX
           subst eX
           exact hP mem ⟨ed, fun e he => absurd he (Nat.not_lt_zero _), fr, fr2⟩)
    · show jT _ _ 11 _ _ _ _
      refine tl_aload_n rfl rfl ?_
      show jT _ _ 12 _ _ _ _
      refine tl_geti (c := 7) (k9 := 15) rfl rfl rfl ?_
      rw [ed]
      refine tl_if_le (tgt := 114) rfl rfl ⟨by omega, by omega⟩ (fun c2 => ?_) (fun c2 => ?_)
      · skip
        refine tl_iload_n rfl rfl ?_
        refine tl_iret rfl ?_
        -- leaf 1 at 115
        first
          | (exfalso; omega)
          | (have e : d = 0 := by omega
             subst e
             rw [cl9] at eX
             subst eX
             exact hP mem ⟨ed, fun e he => absurd he (Nat.not_lt_zero _), fr, fr2⟩)
      · show jT _ _ 18 _ _ _ _
        refine tl_aload_n rfl rfl ?_
        refine tl_geti (c := 7) (k9 := 15) rfl rfl rfl ?_
        rw [ed]
        refine tl_iconst rfl ?_
        show jT _ _ 23 _ _ _ _
        refine tl_icmp_gt (tgt := 114) rfl rfl ⟨by omega, by omega⟩ ⟨by omega, by omega⟩ (fun c3 => ?_) (fun c3 => ?_)
        · skip
          refine tl_iload_n rfl rfl ?_
          refine tl_iret rfl ?_
          -- leaf 2 at 115
          first
            | (exfalso; omega)
            | (have e : d = 0 := by omega
               subst e
               rw [cl9] at eX
               subst eX
               exact hP mem ⟨ed, fun e he => absurd he (Nat.not_lt_zero _), fr, fr2⟩)
        · show jT _ _ 26 _ _ _ _
          refine tl_aload_n rfl rfl ?_
          refine tl_getr (c := 7) (k9 := 13) (b := 372) rfl rfl rfl rfl ?_
          refine tl_aload_n rfl rfl ?_
          refine tl_geti (c := 7) (k9 := 15) rfl rfl rfl ?_
          rw [ed]
          show jT _ _ 34 _ _ _ _
          refine tl_iconst rfl ?_
          refine tl_isub rfl ?_
          refine tl_iald (n := 4) rfl rfl rfl (by omega) (by omega) ?_
          rw [show ((d : Int) - 1).toNat = d - 1 by omega, show mem 372 (d - 1) = OP (d - 1) by omega]
          refine tl_istore rfl (Nat.le_of_ble_eq_true rfl) rfl ?_
          refine tl_iload rfl rfl ?_
          refine tl_if_lt (tgt := 62) rfl rfl ⟨by omega, by omega⟩ (fun c4 => ?_) (fun c4 => ?_)
          · skip
            refine tl_iload_n rfl rfl ?_
            show jT _ _ 63 _ _ _ _
            refine tl_iret rfl ?_
            -- leaf 3 at 63
            first
              | (exfalso; omega)
              | (rw [cl9_O (by omega) (by omega)] at eX
                 subst eX
                 exact hP mem ⟨ed, fun e he => (op e he).2.2.2.2.2.2.1, fr, fr2⟩)
          · show jT _ _ 44 _ _ _ _
            refine tl_iload rfl rfl ?_
            refine tl_bipush rfl rfl ?_
            refine tl_icmp_ge (tgt := 62) rfl rfl ⟨by omega, by omega⟩ ⟨by omega, by omega⟩ (fun c5 => ?_) (fun c5 => ?_)
            · skip
              refine tl_iload_n rfl rfl ?_
              refine tl_iret rfl ?_
              -- leaf 4 at 63
              first
                | (exfalso; omega)
                | (rw [cl9_O (by omega) (by omega)] at eX
                   subst eX
                   exact hP mem ⟨ed, fun e he => (op e he).2.2.2.2.2.2.1, fr, fr2⟩)
            · show jT _ _ 51 _ _ _ _
              refine tl_iload_n rfl rfl ?_
              show jT _ _ 52 _ _ _ _
              refine tl_aload_n rfl rfl ?_
              refine tl_getr (c := 7) (k9 := 11) (b := 369) rfl rfl rfl rfl ?_
              refine tl_iload rfl rfl ?_
              refine tl_iald (n := 24) rfl rfl rfl (by omega) (by omega) ?_
              rw [show mem 369 (OP (d - 1)).toNat = T 4 (OP (d - 1)).toNat by omega]
              refine tl_icmp_eq (tgt := 64) rfl rfl ⟨by omega, by omega⟩ ⟨by omega, by omega⟩ (fun c6 => ?_) (fun c6 => ?_)
              · skip
                refine tl_aload_n rfl rfl ?_
                refine tl_getr (c := 7) (k9 := 14) (b := 373) rfl rfl rfl rfl ?_
                show jT _ _ 68 _ _ _ _
                refine tl_aload_n rfl rfl ?_
                refine tl_geti (c := 7) (k9 := 15) rfl rfl rfl ?_
                rw [ed]
                refine tl_iconst rfl ?_
                refine tl_isub rfl ?_
                refine tl_dup2 rfl rfl rfl ?_
                refine tl_iald (n := 4) rfl rfl rfl (by omega) (by omega) ?_
                rw [show ((d : Int) - 1).toNat = d - 1 by omega, show mem 373 (d - 1) = TU (d - 1) by omega]
                refine tl_iconst rfl ?_
                show jT _ _ 77 _ _ _ _
                refine tl_isub rfl ?_
                refine tl_iast (n := 4) rfl rfl rfl (by omega) (by omega) ?_
                rw [show ((d : Int) - 1).toNat = d - 1 by omega]
                refine tl_aload_n rfl rfl ?_
                refine tl_getr (c := 7) (k9 := 14) (b := 373) rfl rfl rfl rfl ?_
                refine tl_aload_n rfl rfl ?_
                refine tl_geti (c := 7) (k9 := 15) rfl rfl rfl ?_
                rw [hs_o (by decide), ed]
                refine tl_iconst rfl ?_
                show jT _ _ 88 _ _ _ _
                refine tl_isub rfl ?_
                refine tl_iald (n := 4) rfl rfl rfl (by omega) (by omega) ?_
                rw [show ((d : Int) - 1).toNat = d - 1 by omega, hs_s]
                refine tl_if_le (tgt := 98) rfl rfl ⟨by omega, by omega⟩ (fun c7 => ?_) (fun c7 => ?_)
                · skip
                  refine tl_aload_n rfl rfl ?_
                  refine tl_dup rfl rfl ?_
                  refine tl_geti (c := 7) (k9 := 15) rfl rfl rfl ?_
                  rw [hs_o (by decide), ed]
                  refine tl_iconst rfl ?_
                  show jT _ _ 104 _ _ _ _
                  refine tl_isub rfl ?_
                  refine tl_puti (c := 7) (k9 := 15) rfl rfl rfl rfl ?_
                  refine tl_iinc rfl rfl rfl ?_
                  refine tl_goto (tgt := 6) rfl rfl ?_
                  show jT _ _ 6 _ _ _ _
                  -- leaf 5 at 6
                  first
                    | (exfalso; omega)
                    | (rw [cl9_C (by omega) (by omega) (by omega)] at eX
                       refine jT.loc ?_ (ih (r + 1) (d - 1) (ut9 TU (d - 1) (TU (d - 1) - 1)) _ (some (.int (jI (OP (d - 1))))) (by omega) ⟨by omega, by rw [hs_s]; omega, fun e he => ?_, eX, fun x a b => by rw [hs_O a, hs_O b]; exact fr x a b, fun q a => by rw [hs_k a, hs_o (by decide)]; exact fr2 q a⟩)
                       · rw [show ((r + 1 : Nat) : Int) = (r : Int) + 1 by omega]; rfl
                       · have o3 := op e (by omega)
                         rw [hs_o (by decide), hs_o (by decide), hs_o (by decide), hs_o (by decide), hs_o (by decide), hs_k (by omega), ut9_o (by omega)]
                         exact o3)
                · show jT _ _ 93 _ _ _ _
                  refine tl_iload rfl rfl ?_
                  refine tl_iconst rfl ?_
                  refine tl_iadd rfl ?_
                  show jT _ _ 97 _ _ _ _
                  refine tl_iret rfl ?_
                  -- leaf 6 at 97
                  rw [cl9_B (by omega) (by omega) (by omega)] at eX
                  subst eX
                  have z9 : (((OP (d - 1)).toNat + 1 : Nat) : Int) = OP (d - 1) + 1 := by omega
                  have hT : ∀ e, e < d → hs mem 373 (d - 1) (TU (d - 1) - 1) 373 e = ut9 TU (d - 1) (TU (d - 1) - 1) e := by
                    intro e he
                    by_cases ee : e = d - 1
                    · rw [ee, hs_s, ut9_s]
                    · rw [hs_k ee, ut9_o ee]; exact (op e he).2.2.2.2.2.2.1
                  have hq : P (some (.int (jI (((OP (d - 1)).toNat + 1 : Nat) : Int)))) (hs mem 373 (d - 1) (TU (d - 1) - 1)) := hP (hs mem 373 (d - 1) (TU (d - 1) - 1)) ⟨by rw [hs_o (by decide)]; exact ed, hT, fun x a b => by rw [hs_O b]; exact fr x a b, fun q a => by rw [hs_o (by decide)]; exact fr2 q a⟩
                  rw [z9] at hq
                  exact hq
              · show jT _ _ 62 _ _ _ _
                refine tl_iload_n rfl rfl ?_
                refine tl_iret rfl ?_
                -- leaf 7 at 63
                first
                  | (exfalso; omega)
                  | (rw [cl9_O (by omega) (by omega)] at eX
                     subst eX
                     exact hP mem ⟨ed, fun e he => (op e he).2.2.2.2.2.2.1, fr, fr2⟩)
set_option maxRecDepth 20000 in
set_option maxHeartbeats 1000000 in
theorem k_stepBehind (l : Launch) (h T : jH) (k d : Nat) (k24 : k < 24) (d4 : d ≤ 4) (OP TU : Nat → Int) (ed : h 362 15 = (d : Int)) (op : (∀ e, e < d → h 372 e = OP e ∧ 0 ≤ OP e ∧ OP e < 24 ∧ h 369 (OP e).toNat = T 4 (OP e).toNat ∧ 0 ≤ T 4 (OP e).toNat ∧ T 4 (OP e).toNat ≤ 24 ∧ h 373 e = TU e ∧ 1 ≤ TU e ∧ TU e ≤ 9)) : cI l 94 [.ref 362, .int (jI (k : Int))] h (fun z h' => z = ((cl9 T d (k + 1) OP TU).1 : Int) ∧ h' 362 15 = ((cl9 T d (k + 1) OP TU).2.1 : Int) ∧ (∀ e, e < (cl9 T d (k + 1) OP TU).2.1 → h' 373 e = (cl9 T d (k + 1) OP TU).2.2 e) ∧ (∀ x, x ≠ 362 → x ≠ 373 → h' x = h x) ∧ ∀ q, q ≠ 15 → h' 362 q = h 362 q) := by
  refine cI.of rfl rfl ?_
  refine tl_iload_n rfl rfl ?_
  refine tl_iconst rfl ?_
  refine tl_iadd rfl ?_
  refine tl_istore_n rfl (Nat.le_of_ble_eq_true rfl) rfl ?_
  refine tl_iconst rfl ?_
  refine tl_istore_n rfl (Nat.le_of_ble_eq_true rfl) rfl ?_
  show jT _ _ 6 _ _ _ _
  -- leaf 0 at 6
  exact k_sb_lp l h T k k24 OP (cl9 T d (k + 1) OP TU) _ (fun mem hj => ⟨_, rfl, rfl, hj⟩) _ 0 d TU h _ (Nat.lt_succ_self _) ⟨by omega, ed, op, rfl, fun _ _ _ => rfl, fun _ _ => rfl⟩
