/-! match -/
def ml (R : Nat → Int) (i p : Int) : Nat := fst (fun n => ali R (i + n) (p + n)) 64 0
theorem ml_s {R : Nat → Int} (hR : Rok R) {i p : Int} (p0 : 0 ≤ p) : ml R i p ≤ 64 ∧ (∀ n : Nat, n < ml R i p → ali R (i + n) (p + n) = true) ∧ ali R (i + ml R i p) (p + ml R i p) = false := by
  obtain ⟨a, b, c, d⟩ := fst_spec (fun n => ali R (i + n) (p + n)) 64 0
  have hb : fst (fun n => ali R (i + n) (p + n)) 64 0 = ml R i p := rfl
  rw [hb] at a b c d
  refine ⟨by omega, fun n hn => c n (by omega) hn, ?_⟩
  by_cases e : ml R i p < 0 + 64
  · exact d e
  · exact ali_f (opn_64 hR (by omega))
theorem ml_u {R : Nat → Int} {i p : Int} {m : Nat} (hn : m ≤ 64) (h1 : ∀ n : Nat, n < m → ali R (i + n) (p + n) = true) (h2 : ali R (i + m) (p + m) = false) : ml R i p = m := fst_uniq (Nat.zero_le _) (by omega) (fun i _ hi => h1 i hi) h2
theorem ml_0 {R : Nat → Int} {i p : Int} (h : ali R i p = false) : ml R i p = 0 := ml_u (by omega) (fun n hn => by omega) (by rw [show i + ((0 : Nat) : Int) = i by omega, show p + ((0 : Nat) : Int) = p by omega]; exact h)
theorem ml_1 {R : Nat → Int} (hR : Rok R) {i p : Int} (p0 : 0 ≤ p) (h : ali R i p = true) : ml R i p = ml R (i + 1) (p + 1) + 1 := by
  obtain ⟨a, b, c⟩ := ml_s hR (i := i + 1) (p := p + 1) (by omega)
  have l64 : ml R (i + 1) (p + 1) + 1 ≤ 64 := by
    have := hR.2.1
    by_cases e : ml R (i + 1) (p + 1) = 0
    · omega
    · have := opn_t (ali_t1 (b (ml R (i + 1) (p + 1) - 1) (by omega))).1
      omega
  refine ml_u l64 (fun n hn => ?_) ?_
  · by_cases e : n = 0
    · subst e
      rw [show i + ((0 : Nat) : Int) = i by omega, show p + ((0 : Nat) : Int) = p by omega]; exact h
    · have := b (n - 1) (by omega)
      rwa [show i + 1 + ((n - 1 : Nat) : Int) = i + (n : Int) by omega, show p + 1 + ((n - 1 : Nat) : Int) = p + (n : Int) by omega] at this
  · rwa [show i + ((ml R (i + 1) (p + 1) + 1 : Nat) : Int) = i + 1 + (ml R (i + 1) (p + 1) : Int) by omega, show p + ((ml R (i + 1) (p + 1) + 1 : Nat) : Int) = p + 1 + (ml R (i + 1) (p + 1) : Int) by omega]
theorem ml_hi {R : Nat → Int} {i p : Int} (h : R 5 ≤ p ∨ R 70 ≤ i) : ml R i p = 0 := by
  refine ml_0 ?_
  rcases h with h | h
  · exact ali_f (opn_f (by omega))
  · exact ali_f2 (by omega)
def mtM (R : Nat → Int) (i : Int) : Nat → Int
  | 0 => 0
  | k + 1 => if mtM R i k < (ml R i k : Int) then (ml R i k : Int) else mtM R i k
def mtW (R : Nat → Int) (i : Int) : Nat → Int
  | 0 => -1
  | k + 1 => if mtM R i k < (ml R i k : Int) then (k : Int) else mtW R i k
def mtC (R : Nat → Int) (i : Int) : Nat → Int
  | 0 => 0
  | k + 1 => if mtM R i k < (ml R i k : Int) then 1 else if 0 < (ml R i k : Int) ∧ (ml R i k : Int) = mtM R i k then mtC R i k + 1 else mtC R i k
theorem mt_b {R : Nat → Int} (hR : Rok R) {i : Int} : ∀ k : Nat, (0 ≤ mtM R i k ∧ mtM R i k ≤ 64) ∧ (-1 ≤ mtW R i k ∧ mtW R i k < (k : Int)) ∧ (0 ≤ mtC R i k ∧ mtC R i k ≤ (k : Int)) := by
  intro k
  induction k with
  | zero => exact ⟨⟨Int.le_refl _, by show (0 : Int) ≤ 64; omega⟩, ⟨Int.le_refl _, by show (-1 : Int) < 0; omega⟩, ⟨Int.le_refl _, Int.le_refl _⟩⟩
  | succ k ih =>
    have := (ml_s hR (i := i) (p := (k : Int)) (by omega)).1
    rw [mtM, mtW, mtC]
    by_cases c : mtM R i k < (ml R i k : Int)
    · rw [if_pos c, if_pos c, if_pos c]; omega
    · rw [if_neg c, if_neg c, if_neg c]
      split <;> omega
def Am (R : Nat → Int) (i w : Int) : Int := if 0 ≤ i ∧ i < R 70 then (if w = 0 then mtM R i (R 5).toNat else if w = 1 then mtW R i (R 5).toNat else if w = 2 then mtC R i (R 5).toNat else -1) else -1
def Dmatch (s : jH) (i w : Int) : Int × jH := (Am (s 390) i w, s)
theorem Ag.match' {s s' : jH} (h : Ag s s') (k w : Int) : AgD (Dmatch s k w) (Dmatch s' k w) := AgD.rd h (by rw [h 390 (by decide)])
set_option maxRecDepth 20000 in
set_option maxHeartbeats 1000000 in
theorem k_matchSpot_lp (l : Launch) (h : jH) (R : Nat → Int) (hR : RS h 1 R) (i : Int) (i0 : 0 ≤ i) (i64 : i < 64) (P : Option Value → jH → Prop) (hx : ∀ mem, ((∀ p : Nat, p < (R 5).toNat → mem 318 p = (ml R i p : Int)) ∧ (∀ p : Nat, (R 5).toNat ≤ p → p ≤ 64 → mem 318 p = (ml R (i + 1) p : Int)) ∧ ∀ x, x ≠ 318 → mem x = h x) → jT l 131 112 [some (.ref 313), some (.ref 1), some (.int (jI i)), some (.int (jI (mtM R i (R 5).toNat))), some (.int (jI (mtW R i (R 5).toNat))), some (.int (jI (mtC R i (R 5).toNat))), some (.int (jI (((R 5).toNat : Nat) : Int)))] [] mem P) : ∀ (m k : Nat) (mem : jH), (R 5).toNat - k < m → k ≤ (R 5).toNat → ((∀ p : Nat, p < k → mem 318 p = (ml R i p : Int)) ∧ (∀ p : Nat, k ≤ p → p ≤ 64 → mem 318 p = (ml R (i + 1) p : Int)) ∧ ∀ x, x ≠ 318 → mem x = h x) → jT l 131 11 [some (.ref 313), some (.ref 1), some (.int (jI i)), some (.int (jI (mtM R i k))), some (.int (jI (mtW R i k))), some (.int (jI (mtC R i k))), some (.int (jI ((k : Nat) : Int)))] [] mem P := by
  have ok := hR.ok
  have k1 := ok.1
  have k2 := ok.2.1
  intro m
  induction m with
  | zero => intro k mem hk; omega
  | succ m ih =>
    intro k mem hk hkK hi
    have hi9 := hi
    obtain ⟨i1, i2, fr⟩ := hi
    have hRm : RS mem 1 R := hR.of (fun x x1 x2 => fr x (by omega))
    have mb := mt_b ok (i := i) k
    have m64 := (ml_s ok (i := i) (p := (k : Int)) (by omega)).1
    have m65 := (ml_s ok (i := i + 1) (p := (k : Int) + 1) (by omega)).1
    have hinv2 : ((∀ p : Nat, p < (k + 1) → (hs mem 318 k (ml R i k : Int)) 318 p = (ml R i p : Int)) ∧ (∀ p : Nat, (k + 1) ≤ p → p ≤ 64 → (hs mem 318 k (ml R i k : Int)) 318 p = (ml R (i + 1) p : Int)) ∧ ∀ x, x ≠ 318 → (hs mem 318 k (ml R i k : Int)) x = h x) := by
      refine ⟨fun p hp => ?_, fun p p1 p2 => ?_, fun x hx => ?_⟩
      · by_cases c : p = k
        · subst c; rw [hs_s]
        · rw [hs_k c]; exact i1 p (by omega)
      · rw [hs_k (by omega)]; exact i2 p (by omega) p2
      · rw [hs_O hx]; exact fr x hx
    have eM : mtM R i (k + 1) = if mtM R i k < (ml R i k : Int) then (ml R i k : Int) else mtM R i k := rfl
    have eW : mtW R i (k + 1) = if mtM R i k < (ml R i k : Int) then (k : Int) else mtW R i k := rfl
    have eC : mtC R i (k + 1) = if mtM R i k < (ml R i k : Int) then 1 else if 0 < (ml R i k : Int) ∧ (ml R i k : Int) = mtM R i k then mtC R i k + 1 else mtC R i k := rfl
    refine tl_iload rfl rfl ?_
    refine tl_aload_n rfl rfl ?_
    refine tl_getr (c := 9) (k9 := 0) (b := 2) rfl rfl rfl rfl ?_
    refine tl_geti (c := 8) (k9 := 1) rfl rfl rfl ?_
    rw [hRm.o5]
    refine tl_icmp_ge (tgt := 112) rfl rfl ⟨by omega, by omega⟩ ⟨by omega, by omega⟩ (fun c1 => ?_) (fun c1 => ?_)
    · skip
      show jT _ _ 112 _ _ _ _
      -- leaf 0 at 112
      have e : k = (R 5).toNat := by omega
      rw [e] at hi9 ⊢
      exact hx mem hi9
    · show jT _ _ 23 _ _ _ _
      refine tl_iload rfl rfl ?_
      show jT _ _ 25 _ _ _ _
      refine tl_bipush rfl rfl ?_
      refine tl_icmp_ge (tgt := 112) rfl rfl ⟨by omega, by omega⟩ ⟨by omega, by omega⟩ (fun c2 => ?_) (fun c2 => ?_)
      · skip
        show jT _ _ 112 _ _ _ _
        -- leaf 1 at 112
        have e : k = (R 5).toNat := by omega
        rw [e] at hi9 ⊢
        exact hx mem hi9
      · show jT _ _ 30 _ _ _ _
        refine tl_aload_n rfl rfl ?_
        refine tl_getr (c := 10) (k9 := 5) (b := 318) rfl rfl rfl rfl ?_
        refine tl_iload rfl rfl ?_
        refine tl_aload_n rfl rfl ?_
        refine tl_iload_n rfl rfl ?_
        show jT _ _ 38 _ _ _ _
        refine tl_iload rfl rfl ?_
        refine tl_v2i (c9 := 9) (k_isAlike l mem R hRm i ((k : Int)) ⟨by omega, by omega⟩ ⟨by omega, by omega⟩) rfl rfl rfl rfl rfl (Nat.le_of_ble_eq_true rfl) (fun z1 h1 p1 => ?_)
        obtain ⟨q1, rfl⟩ := p1
        have q1 := q1.symm
        subst q1
        have b1 := zb_b (ali R i ((k : Int)))
        refine tl_if_eq (tgt := 60) rfl rfl ⟨by omega, by omega⟩ (fun c3 => ?_) (fun c3 => ?_)
        · skip
          have e1 := zb0 c3
          refine tl_iconst rfl ?_
          refine tl_iast (n := 65) rfl rfl rfl (by omega) (by omega) ?_
          show jT _ _ 62 _ _ _ _
          -- leaf 2 at 62
          first
            | rw [Int.toNat_natCast, show (ml R (i + 1) ((k : Int) + 1) : Int) + 1 = (ml R i k : Int) by rw [ml_1 ok (by omega) e1]; omega]
            | rw [Int.toNat_natCast, show (0 : Int) = (ml R i k : Int) by rw [ml_0 e1]; rfl]
          generalize gm : hs mem 318 k (ml R i k : Int) = mem2 at hinv2 ⊢
          have g1 : mem2 318 k = (ml R i k : Int) := hinv2.1 k (by omega)
          have ih2 := ih (k + 1) mem2 (by omega) (by omega) hinv2
          refine tl_aload_n rfl rfl ?_
          refine tl_getr (c := 10) (k9 := 5) (b := 318) rfl rfl rfl rfl ?_
          refine tl_iload rfl rfl ?_
          refine tl_iald (n := 65) rfl rfl rfl (by omega) (by omega) ?_
          rw [Int.toNat_natCast, g1]
          refine tl_iload_n rfl rfl ?_
          refine tl_icmp_le (tgt := 88) rfl rfl ⟨by omega, by omega⟩ ⟨by omega, by omega⟩ (fun c1 => ?_) (fun c1 => ?_)
          · skip
            show jT _ _ 88 _ _ _ _
            refine tl_iload_n rfl rfl ?_
            refine tl_if_le (tgt := 106) rfl rfl ⟨by omega, by omega⟩ (fun c2 => ?_) (fun c2 => ?_)
            · skip
              refine tl_iinc rfl rfl rfl ?_
              refine tl_goto (tgt := 11) rfl rfl ?_
              show jT _ _ 11 _ _ _ _
              -- leaf 0 at 11
              first
                | (exfalso; omega)
                | (rw [eM, eW, eC, if_pos (by omega), if_pos (by omega), if_pos (by omega)] at ih2; exact ih2)
                | (rw [eM, eW, eC, if_neg (by omega), if_neg (by omega), if_neg (by omega), if_pos (by omega)] at ih2; exact ih2)
                | (rw [eM, eW, eC, if_neg (by omega), if_neg (by omega), if_neg (by omega), if_neg (by omega)] at ih2; exact ih2)
            · show jT _ _ 92 _ _ _ _
              refine tl_aload_n rfl rfl ?_
              refine tl_getr (c := 10) (k9 := 5) (b := 318) rfl rfl rfl rfl ?_
              refine tl_iload rfl rfl ?_
              show jT _ _ 98 _ _ _ _
              refine tl_iald (n := 65) rfl rfl rfl (by omega) (by omega) ?_
              rw [Int.toNat_natCast, g1]
              refine tl_iload_n rfl rfl ?_
              refine tl_icmp_ne (tgt := 106) rfl rfl ⟨by omega, by omega⟩ ⟨by omega, by omega⟩ (fun c3 => ?_) (fun c3 => ?_)
              · skip
                refine tl_iinc rfl rfl rfl ?_
                refine tl_goto (tgt := 11) rfl rfl ?_
                show jT _ _ 11 _ _ _ _
                -- leaf 1 at 11
                first
                  | (exfalso; omega)
                  | (rw [eM, eW, eC, if_pos (by omega), if_pos (by omega), if_pos (by omega)] at ih2; exact ih2)
                  | (rw [eM, eW, eC, if_neg (by omega), if_neg (by omega), if_neg (by omega), if_pos (by omega)] at ih2; exact ih2)
                  | (rw [eM, eW, eC, if_neg (by omega), if_neg (by omega), if_neg (by omega), if_neg (by omega)] at ih2; exact ih2)
              · show jT _ _ 103 _ _ _ _
                refine tl_iinc rfl rfl rfl ?_
                refine tl_iinc rfl rfl rfl ?_
                show jT _ _ 109 _ _ _ _
                refine tl_goto (tgt := 11) rfl rfl ?_
                show jT _ _ 11 _ _ _ _
                -- leaf 2 at 11
                first
                  | (exfalso; omega)
                  | (rw [eM, eW, eC, if_pos (by omega), if_pos (by omega), if_pos (by omega)] at ih2; exact ih2)
                  | (rw [eM, eW, eC, if_neg (by omega), if_neg (by omega), if_neg (by omega), if_pos (by omega)] at ih2; exact ih2)
                  | (rw [eM, eW, eC, if_neg (by omega), if_neg (by omega), if_neg (by omega), if_neg (by omega)] at ih2; exact ih2)
          · show jT _ _ 73 _ _ _ _
            refine tl_aload_n rfl rfl ?_
            refine tl_getr (c := 10) (k9 := 5) (b := 318) rfl rfl rfl rfl ?_
            refine tl_iload rfl rfl ?_
            refine tl_iald (n := 65) rfl rfl rfl (by omega) (by omega) ?_
            rw [Int.toNat_natCast, g1]
            refine tl_istore_n rfl (Nat.le_of_ble_eq_true rfl) rfl ?_
            refine tl_iload rfl rfl ?_
            show jT _ _ 83 _ _ _ _
            refine tl_istore rfl (Nat.le_of_ble_eq_true rfl) rfl ?_
            refine tl_iconst rfl ?_
            refine tl_istore rfl (Nat.le_of_ble_eq_true rfl) rfl ?_
            refine tl_iload_n rfl rfl ?_
            refine tl_if_le (tgt := 106) rfl rfl ⟨by omega, by omega⟩ (fun c4 => ?_) (fun c4 => ?_)
            · skip
              refine tl_iinc rfl rfl rfl ?_
              refine tl_goto (tgt := 11) rfl rfl ?_
              show jT _ _ 11 _ _ _ _
              -- leaf 3 at 11
              first
                | (exfalso; omega)
                | (rw [eM, eW, eC, if_pos (by omega), if_pos (by omega), if_pos (by omega)] at ih2; exact ih2)
                | (rw [eM, eW, eC, if_neg (by omega), if_neg (by omega), if_neg (by omega), if_pos (by omega)] at ih2; exact ih2)
                | (rw [eM, eW, eC, if_neg (by omega), if_neg (by omega), if_neg (by omega), if_neg (by omega)] at ih2; exact ih2)
            · show jT _ _ 92 _ _ _ _
              show jT _ _ 92 _ _ _ _
              refine tl_aload_n rfl rfl ?_
              refine tl_getr (c := 10) (k9 := 5) (b := 318) rfl rfl rfl rfl ?_
              refine tl_iload rfl rfl ?_
              refine tl_iald (n := 65) rfl rfl rfl (by omega) (by omega) ?_
              rw [Int.toNat_natCast, g1]
              refine tl_iload_n rfl rfl ?_
              refine tl_icmp_ne (tgt := 106) rfl rfl ⟨by omega, by omega⟩ ⟨by omega, by omega⟩ (fun c5 => ?_) (fun c5 => ?_)
              · skip
                refine tl_iinc rfl rfl rfl ?_
                show jT _ _ 109 _ _ _ _
                refine tl_goto (tgt := 11) rfl rfl ?_
                show jT _ _ 11 _ _ _ _
                -- leaf 4 at 11
                first
                  | (exfalso; omega)
                  | (rw [eM, eW, eC, if_pos (by omega), if_pos (by omega), if_pos (by omega)] at ih2; exact ih2)
                  | (rw [eM, eW, eC, if_neg (by omega), if_neg (by omega), if_neg (by omega), if_pos (by omega)] at ih2; exact ih2)
                  | (rw [eM, eW, eC, if_neg (by omega), if_neg (by omega), if_neg (by omega), if_neg (by omega)] at ih2; exact ih2)
              · show jT _ _ 103 _ _ _ _
                refine tl_iinc rfl rfl rfl ?_
                refine tl_iinc rfl rfl rfl ?_
                refine tl_goto (tgt := 11) rfl rfl ?_
                show jT _ _ 11 _ _ _ _
                -- leaf 5 at 11
                first
                  | (exfalso; omega)
                  | (rw [eM, eW, eC, if_pos (by omega), if_pos (by omega), if_pos (by omega)] at ih2; exact ih2)
                  | (rw [eM, eW, eC, if_neg (by omega), if_neg (by omega), if_neg (by omega), if_pos (by omega)] at ih2; exact ih2)
                  | (rw [eM, eW, eC, if_neg (by omega), if_neg (by omega), if_neg (by omega), if_neg (by omega)] at ih2; exact ih2)
        · show jT _ _ 46 _ _ _ _
          have e1 := zb1' c3
          refine tl_aload_n rfl rfl ?_
          refine tl_getr (c := 10) (k9 := 5) (b := 318) rfl rfl rfl rfl ?_
          show jT _ _ 50 _ _ _ _
          refine tl_iload rfl rfl ?_
          refine tl_iconst rfl ?_
          refine tl_iadd rfl ?_
          refine tl_iald (n := 65) rfl rfl rfl (by omega) (by omega) ?_
          rw [show ((k : Int) + 1).toNat = k + 1 by omega, i2 (k + 1) (by omega) (by omega), show ((k + 1 : Nat) : Int) = (k : Int) + 1 by omega]
          refine tl_iconst rfl ?_
          refine tl_iadd rfl ?_
          refine tl_goto (tgt := 61) rfl rfl ?_
          show jT _ _ 61 _ _ _ _
          refine tl_iast (n := 65) rfl rfl rfl (by omega) (by omega) ?_
          show jT _ _ 62 _ _ _ _
          -- leaf 3 at 62
          first
            | rw [Int.toNat_natCast, show (ml R (i + 1) ((k : Int) + 1) : Int) + 1 = (ml R i k : Int) by rw [ml_1 ok (by omega) e1]; omega]
            | rw [Int.toNat_natCast, show (0 : Int) = (ml R i k : Int) by rw [ml_0 e1]; rfl]
          generalize gm : hs mem 318 k (ml R i k : Int) = mem2 at hinv2 ⊢
          have g1 : mem2 318 k = (ml R i k : Int) := hinv2.1 k (by omega)
          have ih2 := ih (k + 1) mem2 (by omega) (by omega) hinv2
          refine tl_aload_n rfl rfl ?_
          refine tl_getr (c := 10) (k9 := 5) (b := 318) rfl rfl rfl rfl ?_
          refine tl_iload rfl rfl ?_
          refine tl_iald (n := 65) rfl rfl rfl (by omega) (by omega) ?_
          rw [Int.toNat_natCast, g1]
          refine tl_iload_n rfl rfl ?_
          refine tl_icmp_le (tgt := 88) rfl rfl ⟨by omega, by omega⟩ ⟨by omega, by omega⟩ (fun c1 => ?_) (fun c1 => ?_)
          · skip
            show jT _ _ 88 _ _ _ _
            refine tl_iload_n rfl rfl ?_
            refine tl_if_le (tgt := 106) rfl rfl ⟨by omega, by omega⟩ (fun c2 => ?_) (fun c2 => ?_)
            · skip
              refine tl_iinc rfl rfl rfl ?_
              refine tl_goto (tgt := 11) rfl rfl ?_
              show jT _ _ 11 _ _ _ _
              -- leaf 0 at 11
              first
                | (exfalso; omega)
                | (rw [eM, eW, eC, if_pos (by omega), if_pos (by omega), if_pos (by omega)] at ih2; exact ih2)
                | (rw [eM, eW, eC, if_neg (by omega), if_neg (by omega), if_neg (by omega), if_pos (by omega)] at ih2; exact ih2)
                | (rw [eM, eW, eC, if_neg (by omega), if_neg (by omega), if_neg (by omega), if_neg (by omega)] at ih2; exact ih2)
            · show jT _ _ 92 _ _ _ _
              refine tl_aload_n rfl rfl ?_
              refine tl_getr (c := 10) (k9 := 5) (b := 318) rfl rfl rfl rfl ?_
              refine tl_iload rfl rfl ?_
              show jT _ _ 98 _ _ _ _
              refine tl_iald (n := 65) rfl rfl rfl (by omega) (by omega) ?_
              rw [Int.toNat_natCast, g1]
              refine tl_iload_n rfl rfl ?_
              refine tl_icmp_ne (tgt := 106) rfl rfl ⟨by omega, by omega⟩ ⟨by omega, by omega⟩ (fun c3 => ?_) (fun c3 => ?_)
              · skip
                refine tl_iinc rfl rfl rfl ?_
                refine tl_goto (tgt := 11) rfl rfl ?_
                show jT _ _ 11 _ _ _ _
                -- leaf 1 at 11
                first
                  | (exfalso; omega)
                  | (rw [eM, eW, eC, if_pos (by omega), if_pos (by omega), if_pos (by omega)] at ih2; exact ih2)
                  | (rw [eM, eW, eC, if_neg (by omega), if_neg (by omega), if_neg (by omega), if_pos (by omega)] at ih2; exact ih2)
                  | (rw [eM, eW, eC, if_neg (by omega), if_neg (by omega), if_neg (by omega), if_neg (by omega)] at ih2; exact ih2)
              · show jT _ _ 103 _ _ _ _
                refine tl_iinc rfl rfl rfl ?_
                refine tl_iinc rfl rfl rfl ?_
                show jT _ _ 109 _ _ _ _
                refine tl_goto (tgt := 11) rfl rfl ?_
                show jT _ _ 11 _ _ _ _
                -- leaf 2 at 11
                first
                  | (exfalso; omega)
                  | (rw [eM, eW, eC, if_pos (by omega), if_pos (by omega), if_pos (by omega)] at ih2; exact ih2)
                  | (rw [eM, eW, eC, if_neg (by omega), if_neg (by omega), if_neg (by omega), if_pos (by omega)] at ih2; exact ih2)
                  | (rw [eM, eW, eC, if_neg (by omega), if_neg (by omega), if_neg (by omega), if_neg (by omega)] at ih2; exact ih2)
          · show jT _ _ 73 _ _ _ _
            refine tl_aload_n rfl rfl ?_
            refine tl_getr (c := 10) (k9 := 5) (b := 318) rfl rfl rfl rfl ?_
            refine tl_iload rfl rfl ?_
            refine tl_iald (n := 65) rfl rfl rfl (by omega) (by omega) ?_
            rw [Int.toNat_natCast, g1]
            refine tl_istore_n rfl (Nat.le_of_ble_eq_true rfl) rfl ?_
            refine tl_iload rfl rfl ?_
            show jT _ _ 83 _ _ _ _
            refine tl_istore rfl (Nat.le_of_ble_eq_true rfl) rfl ?_
            refine tl_iconst rfl ?_
            refine tl_istore rfl (Nat.le_of_ble_eq_true rfl) rfl ?_
            refine tl_iload_n rfl rfl ?_
            refine tl_if_le (tgt := 106) rfl rfl ⟨by omega, by omega⟩ (fun c4 => ?_) (fun c4 => ?_)
            · skip
              refine tl_iinc rfl rfl rfl ?_
              refine tl_goto (tgt := 11) rfl rfl ?_
              show jT _ _ 11 _ _ _ _
              -- leaf 3 at 11
              first
                | (exfalso; omega)
                | (rw [eM, eW, eC, if_pos (by omega), if_pos (by omega), if_pos (by omega)] at ih2; exact ih2)
                | (rw [eM, eW, eC, if_neg (by omega), if_neg (by omega), if_neg (by omega), if_pos (by omega)] at ih2; exact ih2)
                | (rw [eM, eW, eC, if_neg (by omega), if_neg (by omega), if_neg (by omega), if_neg (by omega)] at ih2; exact ih2)
            · show jT _ _ 92 _ _ _ _
              show jT _ _ 92 _ _ _ _
              refine tl_aload_n rfl rfl ?_
              refine tl_getr (c := 10) (k9 := 5) (b := 318) rfl rfl rfl rfl ?_
              refine tl_iload rfl rfl ?_
              refine tl_iald (n := 65) rfl rfl rfl (by omega) (by omega) ?_
              rw [Int.toNat_natCast, g1]
              refine tl_iload_n rfl rfl ?_
              refine tl_icmp_ne (tgt := 106) rfl rfl ⟨by omega, by omega⟩ ⟨by omega, by omega⟩ (fun c5 => ?_) (fun c5 => ?_)
              · skip
                refine tl_iinc rfl rfl rfl ?_
                show jT _ _ 109 _ _ _ _
                refine tl_goto (tgt := 11) rfl rfl ?_
                show jT _ _ 11 _ _ _ _
                -- leaf 4 at 11
                first
                  | (exfalso; omega)
                  | (rw [eM, eW, eC, if_pos (by omega), if_pos (by omega), if_pos (by omega)] at ih2; exact ih2)
                  | (rw [eM, eW, eC, if_neg (by omega), if_neg (by omega), if_neg (by omega), if_pos (by omega)] at ih2; exact ih2)
                  | (rw [eM, eW, eC, if_neg (by omega), if_neg (by omega), if_neg (by omega), if_neg (by omega)] at ih2; exact ih2)
              · show jT _ _ 103 _ _ _ _
                refine tl_iinc rfl rfl rfl ?_
                refine tl_iinc rfl rfl rfl ?_
                refine tl_goto (tgt := 11) rfl rfl ?_
                show jT _ _ 11 _ _ _ _
                -- leaf 5 at 11
                first
                  | (exfalso; omega)
                  | (rw [eM, eW, eC, if_pos (by omega), if_pos (by omega), if_pos (by omega)] at ih2; exact ih2)
                  | (rw [eM, eW, eC, if_neg (by omega), if_neg (by omega), if_neg (by omega), if_pos (by omega)] at ih2; exact ih2)
                  | (rw [eM, eW, eC, if_neg (by omega), if_neg (by omega), if_neg (by omega), if_neg (by omega)] at ih2; exact ih2)
set_option maxRecDepth 20000 in
set_option maxHeartbeats 1000000 in
theorem k_matchSpot (l : Launch) (h : jH) (R : Nat → Int) (hR : RS h 1 R) (i : Int) (i0 : 0 ≤ i) (i64 : i < 64) (hc : ∀ p : Nat, p ≤ 64 → h 318 p = (ml R (i + 1) p : Int)) : cV l 131 [.ref 313, .ref 1, .int (jI i)] h (fun h' => (∀ p : Nat, p ≤ 64 → h' 318 p = (ml R i p : Int)) ∧ (h' 315 i.toNat = mtM R i (R 5).toNat ∧ h' 316 i.toNat = mtW R i (R 5).toNat ∧ h' 317 i.toNat = mtC R i (R 5).toNat) ∧ (∀ q, q ≠ i.toNat → h' 315 q = h 315 q ∧ h' 316 q = h 316 q ∧ h' 317 q = h 317 q) ∧ ∀ x, (x < 315 ∨ 318 < x) → h' x = h x) := by
  have ok := hR.ok
  have k1 := ok.1
  have k2 := ok.2.1
  refine cV.of rfl rfl ?_
  refine tl_iconst rfl ?_
  refine tl_istore_n rfl (Nat.le_of_ble_eq_true rfl) rfl ?_
  refine tl_iconst rfl ?_
  refine tl_istore rfl (Nat.le_of_ble_eq_true rfl) rfl ?_
  refine tl_iconst rfl ?_
  refine tl_istore rfl (Nat.le_of_ble_eq_true rfl) rfl ?_
  show jT _ _ 8 _ _ _ _
  refine tl_iconst rfl ?_
  refine tl_istore rfl (Nat.le_of_ble_eq_true rfl) rfl ?_
  show jT _ _ 11 _ _ _ _
  -- leaf 0 at 11
  refine k_matchSpot_lp l h R hR i i0 i64 _ (fun mem hi => ?_) _ 0 h (Nat.lt_succ_self _) (Nat.zero_le _) ⟨fun p hp => by omega, fun p p1 p2 => hc p p2, fun x _ => rfl⟩
  refine tl_aload_n rfl rfl ?_
  refine tl_getr (c := 10) (k9 := 2) (b := 315) rfl rfl rfl rfl ?_
  refine tl_iload_n rfl rfl ?_
  refine tl_iload_n rfl rfl ?_
  refine tl_iast (n := 64) rfl rfl rfl (by omega) (by omega) ?_
  refine tl_aload_n rfl rfl ?_
  show jT _ _ 120 _ _ _ _
  refine tl_getr (c := 10) (k9 := 3) (b := 316) rfl rfl rfl rfl ?_
  refine tl_iload_n rfl rfl ?_
  refine tl_iload rfl rfl ?_
  refine tl_iast (n := 64) rfl rfl rfl (by omega) (by omega) ?_
  refine tl_aload_n rfl rfl ?_
  refine tl_getr (c := 10) (k9 := 4) (b := 317) rfl rfl rfl rfl ?_
  refine tl_iload_n rfl rfl ?_
  show jT _ _ 132 _ _ _ _
  refine tl_iload rfl rfl ?_
  refine tl_iast (n := 64) rfl rfl rfl (by omega) (by omega) ?_
  refine tl_ret rfl ?_
  -- leaf 0 at 135
  obtain ⟨i1, i2, fr⟩ := hi
  refine ⟨rfl, fun p hp => ?_, ⟨?_, ?_, hs_s⟩, fun q hq => ⟨?_, ?_, ?_⟩, fun x hx => ?_⟩
  · rw [hs_o (by decide), hs_o (by decide), hs_o (by decide)]
    by_cases c : p < (R 5).toNat
    · exact i1 p c
    · rw [i2 p (by omega) hp, ml_hi (i := i + 1) (p := (p : Int)) (by omega), ml_hi (i := i) (p := (p : Int)) (by omega)]
  · rw [hs_o (by decide), hs_o (by decide), hs_s]
  · rw [hs_o (by decide), hs_s]
  · rw [hs_o (by decide), hs_o (by decide), hs_k hq, fr 315 (by decide)]
  · rw [hs_o (by decide), hs_k hq, hs_o (by decide), fr 316 (by decide)]
  · rw [hs_k hq, hs_o (by decide), hs_o (by decide), fr 317 (by decide)]
  · rw [hs_O (by omega), hs_O (by omega), hs_O (by omega), fr x (by omega)]
set_option maxRecDepth 20000 in
set_option maxHeartbeats 1000000 in
theorem k_matchA0 (l : Launch) (h : jH) (P : Option Value → jH → Prop) (hx : ∀ mem, (∀ p : Nat, p ≤ 64 → mem 318 p = 0) ∧ (∀ x, x ≠ 318 → mem x = h x) → jT l 130 21 [some (.ref 313), some (.ref 1), some (.int (jI 65))] [] mem P) : ∀ (m k : Nat) (mem : jH), 65 - k < m → k ≤ 65 → (∀ p : Nat, p < k → mem 318 p = 0) ∧ (∀ x, x ≠ 318 → mem x = h x) → jT l 130 2 [some (.ref 313), some (.ref 1), some (.int (jI (k : Int)))] [] mem P := by
  intro m
  induction m with
  | zero => intro k mem hk; omega
  | succ m ih =>
    intro k mem hk hkK hi
    refine tl_iload_n rfl rfl ?_
    refine tl_bipush rfl rfl ?_
    refine tl_icmp_gt (tgt := 21) rfl rfl ⟨by omega, by omega⟩ ⟨by omega, by omega⟩ (fun c1 => ?_) (fun c1 => ?_)
    · skip
      show jT _ _ 21 _ _ _ _
      -- leaf 0 at 21
      have e : k = 65 := by omega
      subst e
      exact hx mem ⟨fun p hp => hi.1 p (by omega), hi.2⟩
    · show jT _ _ 8 _ _ _ _
      refine tl_aload_n rfl rfl ?_
      refine tl_getr (c := 10) (k9 := 5) (b := 318) rfl rfl rfl rfl ?_
      refine tl_iload_n rfl rfl ?_
      show jT _ _ 13 _ _ _ _
      refine tl_iconst rfl ?_
      refine tl_iast (n := 65) rfl rfl rfl (by omega) (by omega) ?_
      refine tl_iinc rfl rfl rfl ?_
      refine tl_goto (tgt := 2) rfl rfl ?_
      show jT _ _ 2 _ _ _ _
      -- leaf 1 at 2
      refine ih (k + 1) _ (by omega) (by omega) ⟨fun p hp => ?_, fun x hx => ?_⟩
      · rw [Int.toNat_natCast]
        by_cases c : p = k
        · subst c; rw [hs_s]
        · rw [hs_k c]; exact hi.1 p (by omega)
      · rw [hs_O hx]; exact hi.2 x hx
set_option maxRecDepth 20000 in
set_option maxHeartbeats 1000000 in
theorem k_matchA1 (l : Launch) (h : jH) (R : Nat → Int) (hR : RS h 1 R) (P : Option Value → jH → Prop) (hP : ∀ mem, ((∀ p : Nat, p ≤ 64 → mem 318 p = (ml R (0 : Int) p : Int)) ∧ (∀ q : Nat, 0 ≤ q → (q : Int) < R 70 → mem 315 q = mtM R (q : Int) (R 5).toNat ∧ mem 316 q = mtW R (q : Int) (R 5).toNat ∧ mem 317 q = mtC R (q : Int) (R 5).toNat) ∧ ∀ x, (x < 315 ∨ 318 < x) → mem x = h x) → P none mem) : ∀ (m k : Nat) (mem : jH), k < m → (k : Int) ≤ R 70 → ((∀ p : Nat, p ≤ 64 → mem 318 p = (ml R (k : Int) p : Int)) ∧ (∀ q : Nat, k ≤ q → (q : Int) < R 70 → mem 315 q = mtM R (q : Int) (R 5).toNat ∧ mem 316 q = mtW R (q : Int) (R 5).toNat ∧ mem 317 q = mtC R (q : Int) (R 5).toNat) ∧ ∀ x, (x < 315 ∨ 318 < x) → mem x = h x) → jT l 130 36 [some (.ref 313), some (.ref 1), some (.int (jI ((k : Int) - 1)))] [] mem P := by
  have ok := hR.ok
  have k3 := ok.2.2.1
  have k4 := ok.2.2.2.1
  intro m
  induction m with
  | zero => intro k mem hk; omega
  | succ m ih =>
    intro k mem hk hkK hi
    have hi9 := hi
    obtain ⟨i1, i2, fr⟩ := hi
    have hRm : RS mem 1 R := hR.of (fun x x1 x2 => fr x (by omega))
    refine tl_iload_n rfl rfl ?_
    refine tl_if_lt (tgt := 52) rfl rfl ⟨by omega, by omega⟩ (fun c1 => ?_) (fun c1 => ?_)
    · skip
      refine tl_ret rfl ?_
      -- leaf 0 at 52
      have e : k = 0 := by omega
      subst e
      exact hP mem hi9
    · show jT _ _ 40 _ _ _ _
      refine tl_aload_n rfl rfl ?_
      refine tl_aload_n rfl rfl ?_
      refine tl_iload_n rfl rfl ?_
      show jT _ _ 43 _ _ _ _
      refine tl_v2v (c9 := 10) (k_matchSpot l mem R hRm ((k : Int) - 1) (by omega) (by omega) (by rw [show (k : Int) - 1 + 1 = (k : Int) by omega]; exact i1)) rfl rfl rfl rfl rfl (Nat.le_of_ble_eq_true rfl) (fun h2 p2 => ?_)
      obtain ⟨a1, ⟨a2, a3, a4⟩, a5, a6⟩ := p2
      refine tl_iinc rfl rfl rfl ?_
      refine tl_goto (tgt := 36) rfl rfl ?_
      show jT _ _ 36 _ _ _ _
      -- leaf 1 at 36
      have := ih (k - 1) h2 (by omega) (by omega) ⟨?_, fun q q1 q2 => ?_, fun x hx => (a6 x hx).trans (fr x hx)⟩
      · rw [show ((k - 1 : Nat) : Int) - 1 = (k : Int) - 1 + -1 by omega] at this
        exact this
      · rw [show ((k - 1 : Nat) : Int) = (k : Int) - 1 by omega]; exact a1
      · by_cases c : q = k - 1
        · subst c
          rw [show ((k : Int) - 1).toNat = k - 1 by omega] at a2 a3 a4
          rw [show ((k - 1 : Nat) : Int) = (k : Int) - 1 by omega]
          exact ⟨a2, a3, a4⟩
        · obtain ⟨b1, b2, b3⟩ := a5 q (by omega)
          rw [b1, b2, b3]; exact i2 q (by omega) q2
set_option maxRecDepth 20000 in
set_option maxHeartbeats 1000000 in
theorem k_matchAll (l : Launch) (h : jH) (R : Nat → Int) (hR : RS h 1 R) : cV l 130 [.ref 313, .ref 1] h (fun h' => (∀ q : Nat, (q : Int) < R 70 → h' 315 q = mtM R (q : Int) (R 5).toNat ∧ h' 316 q = mtW R (q : Int) (R 5).toNat ∧ h' 317 q = mtC R (q : Int) (R 5).toNat) ∧ ∀ x, (x < 315 ∨ 318 < x) → h' x = h x) := by
  have ok := hR.ok
  have k3 := ok.2.2.1
  have k4 := ok.2.2.2.1
  refine cV.of rfl rfl ?_
  refine tl_iconst rfl ?_
  refine tl_istore_n rfl (Nat.le_of_ble_eq_true rfl) rfl ?_
  show jT _ _ 2 _ _ _ _
  -- leaf 0 at 2
  refine k_matchA0 l h _ (fun mem hi => ?_) _ 0 h (Nat.lt_succ_self _) (Nat.zero_le _) ⟨fun p hp => by omega, fun x _ => rfl⟩
  refine tl_aload_n rfl rfl ?_
  refine tl_getr (c := 9) (k9 := 1) (b := 4) rfl rfl rfl rfl ?_
  refine tl_geti (c := 8) (k9 := 1) rfl rfl rfl ?_
  rw [(hR.of (fun x x1 x2 => hi.2 x (by omega))).o70]
  refine tl_bipush rfl rfl ?_
  refine tl_s2i (c_min l mem _ _ ⟨by omega, by omega⟩ ⟨by omega, by omega⟩) rfl rfl rfl (Nat.le_of_ble_eq_true rfl) (fun z5 h5 p5 => ?_)
  obtain ⟨q5, rfl⟩ := p5
  have q5 := q5.symm
  subst q5
  rw [show min (R 70) 64 = (((R 70).toNat : Nat) : Int) by omega]
  refine tl_iconst rfl ?_
  show jT _ _ 34 _ _ _ _
  refine tl_isub rfl ?_
  refine tl_istore_n rfl (Nat.le_of_ble_eq_true rfl) rfl ?_
  show jT _ _ 36 _ _ _ _
  -- leaf 0 at 36
  refine k_matchA1 l h R hR _ (fun mem2 hj => ⟨rfl, fun q q2 => hj.2.1 q (Nat.zero_le _) q2, hj.2.2⟩) _ (R 70).toNat mem (Nat.lt_succ_self _) (by omega) ⟨fun p hp => ?_, fun q q1 q2 => by omega, fun x hx => hi.2 x (by omega)⟩
  rw [hi.1 p hp, ml_hi (by omega)]
  rfl
set_option maxRecDepth 20000 in
set_option maxHeartbeats 1000000 in
theorem k_match (l : Launch) (h s : jH) (t i w : Int) (hI : IC h s t) (hi : jr i) (hw9 : jr w) : cI l 169 [.ref 0, .int (jI i), .int (jI w)] h (PK h t (Dmatch s i w)) := by
  have i1 := hi.1
  have i2 := hi.2
  have w1 := hw9.1
  have w2 := hw9.2
  have ok := hI.ok
  have k3 := ok.2.2.1
  have k4 := ok.2.2.2.1
  refine cI.of rfl rfl ?_
  refine tl_iload_n rfl rfl ?_
  refine tl_if_lt (tgt := 18) rfl rfl ⟨by omega, by omega⟩ (fun c1 => ?_) (fun c1 => ?_)
  · skip
    refine tl_iconst rfl ?_
    refine tl_iret rfl ?_
    -- leaf 0 at 19
    refine ⟨_, rfl, ?_⟩
    rw [Dmatch, Am, if_neg (by omega)]
    exact PK.rd hI KF.rfl'
  · show jT _ _ 4 _ _ _ _
    refine tl_iload_n rfl rfl ?_
    refine tl_aload_n rfl rfl ?_
    show jT _ _ 6 _ _ _ _
    refine tl_getr (c := 11) (k9 := 0) (b := 1) rfl rfl rfl rfl ?_
    refine tl_getr (c := 9) (k9 := 1) (b := 4) rfl rfl rfl rfl ?_
    refine tl_geti (c := 8) (k9 := 1) rfl rfl rfl ?_
    rw [hI.1.o70]
    refine tl_icmp_lt (tgt := 20) rfl rfl ⟨by omega, by omega⟩ ⟨by omega, by omega⟩ (fun c2 => ?_) (fun c2 => ?_)
    · skip
      refine tl_aload_n rfl rfl ?_
      refine tl_getr (c := 11) (k9 := 10) (b := 313) rfl rfl rfl rfl ?_
      refine tl_aload_n rfl rfl ?_
      show jT _ _ 25 _ _ _ _
      refine tl_getr (c := 11) (k9 := 0) (b := 1) rfl rfl rfl rfl ?_
      refine tl_v1v (c9 := 10) (k_matchAll l h (s 390) hI.1) rfl rfl rfl rfl rfl (Nat.le_of_ble_eq_true rfl) (fun h1 p1 => ?_)
      obtain ⟨mr, fr⟩ := p1
      have kf : KF h h1 := KF.of (fun x hx => fr x (by omega))
      have mr2 := mr i.toNat (by omega)
      rw [show ((i.toNat : Nat) : Int) = i by omega] at mr2
      obtain ⟨r1, r2, r3⟩ := mr2
      refine tl_iload_n rfl rfl ?_
      by_cases ct3 : w < 0 ∨ 2 < w
      · refine tl_tabO (tgt := 90) rfl ⟨by omega, by omega⟩ ct3 rfl ?_
        refine tl_iconst rfl ?_
        refine tl_iret rfl ?_
        -- leaf 1 at 91
        refine ⟨_, rfl, ?_⟩
        rw [Dmatch, Am]
        repeat (first | rw [if_pos (by omega)] | rw [if_neg (by omega)])
        exact PK.rd hI kf
      · have ct3b : w = 0 ∨ w = 1 ∨ w = 2 := by omega
        rcases ct3b with ct3b | ct3b | ct3b
        · refine tl_tabI (off := 28) (tgt := 60) rfl ⟨by omega, by omega⟩ (by omega) (by omega) (by rw [ct3b]; rfl) rfl ?_
          refine tl_aload_n rfl rfl ?_
          show jT _ _ 61 _ _ _ _
          refine tl_getr (c := 11) (k9 := 10) (b := 313) rfl rfl rfl rfl ?_
          refine tl_getr (c := 10) (k9 := 2) (b := 315) rfl rfl rfl rfl ?_
          refine tl_iload_n rfl rfl ?_
          refine tl_iald (n := 64) rfl rfl rfl (by omega) (by omega) ?_
          rw [r1]
          refine tl_iret rfl ?_
          -- leaf 2 at 69
          refine ⟨_, rfl, ?_⟩
          rw [Dmatch, Am]
          repeat (first | rw [if_pos (by omega)] | rw [if_neg (by omega)])
          exact PK.rd hI kf
        · refine tl_tabI (off := 38) (tgt := 70) rfl ⟨by omega, by omega⟩ (by omega) (by omega) (by rw [ct3b]; rfl) rfl ?_
          refine tl_aload_n rfl rfl ?_
          refine tl_getr (c := 11) (k9 := 10) (b := 313) rfl rfl rfl rfl ?_
          show jT _ _ 74 _ _ _ _
          refine tl_getr (c := 10) (k9 := 3) (b := 316) rfl rfl rfl rfl ?_
          refine tl_iload_n rfl rfl ?_
          refine tl_iald (n := 64) rfl rfl rfl (by omega) (by omega) ?_
          rw [r2]
          refine tl_iret rfl ?_
          -- leaf 3 at 79
          refine ⟨_, rfl, ?_⟩
          rw [Dmatch, Am]
          repeat (first | rw [if_pos (by omega)] | rw [if_neg (by omega)])
          exact PK.rd hI kf
        · refine tl_tabI (off := 48) (tgt := 80) rfl ⟨by omega, by omega⟩ (by omega) (by omega) (by rw [ct3b]; rfl) rfl ?_
          refine tl_aload_n rfl rfl ?_
          refine tl_getr (c := 11) (k9 := 10) (b := 313) rfl rfl rfl rfl ?_
          refine tl_getr (c := 10) (k9 := 4) (b := 317) rfl rfl rfl rfl ?_
          show jT _ _ 87 _ _ _ _
          refine tl_iload_n rfl rfl ?_
          refine tl_iald (n := 64) rfl rfl rfl (by omega) (by omega) ?_
          rw [r3]
          refine tl_iret rfl ?_
          -- leaf 4 at 89
          refine ⟨_, rfl, ?_⟩
          rw [Dmatch, Am]
          repeat (first | rw [if_pos (by omega)] | rw [if_neg (by omega)])
          exact PK.rd hI kf
    · show jT _ _ 18 _ _ _ _
      refine tl_iconst rfl ?_
      refine tl_iret rfl ?_
      -- leaf 5 at 19
      refine ⟨_, rfl, ?_⟩
      rw [Dmatch, Am, if_neg (by omega)]
      exact PK.rd hI KF.rfl'
set_option maxRecDepth 20000 in
set_option maxHeartbeats 1000000 in
theorem r_layM_in (l : Launch) (mem : jH) (R : Nat → Int) (e390 : mem 390 = R) (ok : Rok R) (i : Int) (i0 : 0 ≤ i) (i64 : i < 64) (p : Nat) (hp : (p : Int) < R 5) (Q : Option Value → jH → Prop) (hx : jT l 241 80 [some (.ref 388), some (.int (jI i)), some (.int (jI (p : Int))), some (.int (jI (tsz R p : Int))), some (.int (jI ((ml R i p : Nat) : Int)))] [] mem Q) : ∀ (m n : Nat), 64 - n < m → n ≤ tsz R p → (∀ q : Nat, q < n → ali R (i + q) (p + q) = true) → jT l 241 35 [some (.ref 388), some (.int (jI i)), some (.int (jI (p : Int))), some (.int (jI (tsz R p : Int))), some (.int (jI (n : Int)))] [] mem Q := by
  have ok9 := ok
  obtain ⟨k1, k2, k3, k4, k5, k6, k7⟩ := ok9
  obtain ⟨tp1, tp2, tp3⟩ := tsz_s ok (p := (p : Int)) (by omega)
  intro m
  induction m with
  | zero => intro n hk; omega
  | succ m ih =>
    intro n hk hkp hi
    refine tl_iload rfl rfl ?_
    refine tl_iload_n rfl rfl ?_
    refine tl_icmp_ge (tgt := 80) rfl rfl ⟨by omega, by omega⟩ ⟨by omega, by omega⟩ (fun c1 => ?_) (fun c1 => ?_)
    · skip
      show jT _ _ 80 _ _ _ _
      -- leaf 0 at 80
      have e : ml R i p = n := ml_u (by omega) hi (by first | exact ali_f2 (by rw [← p3, ← p4]; omega) | exact ali_f2 (by omega) | exact ali_f (by rw [show n = tsz R p by omega]; exact tp3))
      rw [e] at hx
      exact hx
    · show jT _ _ 41 _ _ _ _
      have o1 := opn_t (tp2 n (by omega))
      refine tl_iload_n rfl rfl ?_
      refine tl_iload rfl rfl ?_
      refine tl_iadd rfl ?_
      show jT _ _ 45 _ _ _ _
      refine tl_aload_n rfl rfl ?_
      refine tl_iconst rfl ?_
      refine tl_v1i (c9 := 12) (c_sizeOf l _ 1 (by decide) (by decide)) rfl rfl rfl rfl rfl (Nat.le_of_ble_eq_true rfl) (fun z1 h1 p1 => ?_)
      obtain ⟨q1, rfl⟩ := p1
      have q1 := q1.symm
      subst q1
      rw [show (5 + 65 * 1 : Int).toNat = 70 from rfl]
      rw [e390]
      refine tl_icmp_ge (tgt := 80) rfl rfl ⟨by omega, by omega⟩ ⟨by omega, by omega⟩ (fun c2 => ?_) (fun c2 => ?_)
      · skip
        show jT _ _ 80 _ _ _ _
        -- leaf 1 at 80
        have e : ml R i p = n := ml_u (by omega) hi (by first | exact ali_f2 (by rw [← p3, ← p4]; omega) | exact ali_f2 (by omega) | exact ali_f (by rw [show n = tsz R p by omega]; exact tp3))
        rw [e] at hx
        exact hx
      · show jT _ _ 53 _ _ _ _
        refine tl_aload_n rfl rfl ?_
        refine tl_iconst rfl ?_
        refine tl_iload_n rfl rfl ?_
        show jT _ _ 56 _ _ _ _
        refine tl_iload rfl rfl ?_
        refine tl_iadd rfl ?_
        refine tl_v2i (c9 := 12) (c_at l _ 0 ((p : Int) + (n : Int)) (by decide) (by decide) (by omega) (by omega)) rfl rfl rfl rfl rfl (Nat.le_of_ble_eq_true rfl) (fun z3 h3 p3 => ?_)
        obtain ⟨q3, p3⟩ := p3
        have q3 := q3.symm
        subst q3
        rw [show ((6 : Int) + 65 * 0 + ((p : Int) + (n : Int))).toNat = 6 + ((p : Int) + (n : Int)).toNat by omega, e390] at p3
        have y3 := k5 ((p : Int) + (n : Int)).toNat (by omega)
        have ya3 := y3.1
        have yb3 := y3.2
        refine tl_aload_n rfl rfl ?_
        refine tl_iconst rfl ?_
        refine tl_iload_n rfl rfl ?_
        refine tl_iload rfl rfl ?_
        show jT _ _ 67 _ _ _ _
        refine tl_iadd rfl ?_
        refine tl_v2i (c9 := 12) (c_at l _ 1 (i + (n : Int)) (by decide) (by decide) (by omega) (by omega)) rfl rfl rfl rfl rfl (Nat.le_of_ble_eq_true rfl) (fun z4 h4 p4 => ?_)
        obtain ⟨q4, p4⟩ := p4
        have q4 := q4.symm
        subst q4
        rw [show ((6 : Int) + 65 * 1 + (i + (n : Int))).toNat = 71 + (i + (n : Int)).toNat by omega, e390] at p4
        have y4 := k6 (i + (n : Int)).toNat (by omega)
        have ya4 := y4.1
        have yb4 := y4.2
        refine tl_icmp_ne (tgt := 80) rfl rfl ⟨by omega, by omega⟩ ⟨by omega, by omega⟩ (fun c3 => ?_) (fun c3 => ?_)
        · skip
          show jT _ _ 80 _ _ _ _
          -- leaf 2 at 80
          have e : ml R i p = n := ml_u (by omega) hi (by first | exact ali_f2 (by rw [← p3, ← p4]; omega) | exact ali_f2 (by omega) | exact ali_f (by rw [show n = tsz R p by omega]; exact tp3))
          rw [e] at hx
          exact hx
        · show jT _ _ 74 _ _ _ _
          refine tl_iinc rfl rfl rfl ?_
          refine tl_goto (tgt := 35) rfl rfl ?_
          show jT _ _ 35 _ _ _ _
          -- leaf 3 at 35
          exact ih (n + 1) (by omega) (by omega) (fun q hq => by by_cases c : q = n; (subst c; exact ali_t (tp2 _ (by omega)) (by rw [← p3, ← p4]; omega)); exact hi q (by omega))
set_option maxRecDepth 20000 in
set_option maxHeartbeats 1000000 in
theorem r_layM_lp (l : Launch) (h : jH) (R : Nat → Int) (hR : h 390 = R) (ok : Rok R) (i : Int) (i0 : 0 ≤ i) (i64 : i < 64) (P : Option Value → jH → Prop) (hP : ∀ mem, (mem 388 14 = mtM R i (R 5).toNat ∧ mem 388 15 = mtW R i (R 5).toNat ∧ mem 388 16 = mtC R i (R 5).toNat ∧ (∀ x, x ≠ 388 → mem x = h x) ∧ ∀ q, (q < 14 ∨ 16 < q) → mem 388 q = h 388 q) → P none mem) : ∀ (m k : Nat) (mem : jH) (y y2 : Option Value), (y = none ∨ ∃ z, y = some (.int (jI z))) → (y2 = none ∨ ∃ z, y2 = some (.int (jI z))) → (R 5).toNat - k < m → k ≤ (R 5).toNat → (mem 388 14 = mtM R i k ∧ mem 388 15 = mtW R i k ∧ mem 388 16 = mtC R i k ∧ (∀ x, x ≠ 388 → mem x = h x) ∧ ∀ q, (q < 14 ∨ 16 < q) → mem 388 q = h 388 q) → jT l 241 17 [some (.ref 388), some (.int (jI i)), some (.int (jI (k : Int))), y, y2] [] mem P := by
  have k1 := ok.1
  have k2 := ok.2.1
  intro m
  induction m with
  | zero => intro k mem y y2 hy hy2 hk; omega
  | succ m ih =>
    intro k mem y y2 hy hy2 hk hkK hi
    have hi9 := hi
    obtain ⟨j1, j2, j3, j4, j5⟩ := hi
    have e390 : mem 390 = R := by rw [j4 390 (by decide)]; exact hR
    have mb := mt_b ok (i := i) k
    have m64 := (ml_s ok (i := i) (p := (k : Int)) (by omega)).1
    have eM : mtM R i (k + 1) = if mtM R i k < (ml R i k : Int) then (ml R i k : Int) else mtM R i k := rfl
    have eW : mtW R i (k + 1) = if mtM R i k < (ml R i k : Int) then (k : Int) else mtW R i k := rfl
    have eC : mtC R i (k + 1) = if mtM R i k < (ml R i k : Int) then 1 else if 0 < (ml R i k : Int) ∧ (ml R i k : Int) = mtM R i k then mtC R i k + 1 else mtC R i k := rfl
    refine tl_iload_n rfl rfl ?_
    refine tl_aload_n rfl rfl ?_
    refine tl_iconst rfl ?_
    refine tl_v1i (c9 := 12) (c_sizeOf l _ 0 (by decide) (by decide)) rfl rfl rfl rfl rfl (Nat.le_of_ble_eq_true rfl) (fun z1 h1 p1 => ?_)
    obtain ⟨q1, rfl⟩ := p1
    have q1 := q1.symm
    subst q1
    rw [show (5 + 65 * 0 : Int).toNat = 5 from rfl]
    rw [e390]
    refine tl_icmp_ge (tgt := 139) rfl rfl ⟨by omega, by omega⟩ ⟨by omega, by omega⟩ (fun c1 => ?_) (fun c1 => ?_)
    · skip
      refine tl_ret rfl ?_
      -- leaf 0 at 139
      have e : k = (R 5).toNat := by omega
      rw [e] at hi9
      exact hP mem hi9
    · show jT _ _ 26 _ _ _ _
      show jT _ _ 26 _ _ _ _
      refine tl_aload_n rfl rfl ?_
      refine tl_iload_n rfl rfl ?_
      refine tl_v1i (c9 := 12) (r_reachOf l mem (by rw [e390]; exact ok) (k : Int) (by omega) (by omega)) rfl rfl rfl rfl rfl (Nat.le_of_ble_eq_true rfl) (fun z2 h2 p2 => ?_)
      obtain ⟨q2, p2⟩ := p2
      have q2 := q2.symm
      subst q2
      rw [e390] at p2
      subst p2
      refine tl_istore_n rfl (Nat.le_of_ble_eq_true rfl) rfl ?_
      refine tl_iconst rfl ?_
      refine tl_istore rfl (Nat.le_of_ble_eq_true rfl) rfl ?_
      show jT _ _ 35 _ _ _ _
      -- leaf 1 at 35
      refine r_layM_in l mem R e390 ok i i0 i64 k (by omega) _ ?_ _ 0 (Nat.lt_succ_self _) (Nat.zero_le _) (fun q hq => by omega)
      refine tl_iload rfl rfl ?_
      refine tl_aload_n rfl rfl ?_
      refine tl_geti (c := 12) (k9 := 14) rfl rfl rfl ?_
      rw [j1]
      refine tl_icmp_le (tgt := 105) rfl rfl ⟨by omega, by omega⟩ ⟨by omega, by omega⟩ (fun c1 => ?_) (fun c1 => ?_)
      · skip
        refine tl_aload_n rfl rfl ?_
        refine tl_dup rfl rfl ?_
        show jT _ _ 107 _ _ _ _
        refine tl_geti (c := 12) (k9 := 16) rfl rfl rfl ?_
        try rw [hs_s]
        try rw [j3]
        refine tl_iload rfl rfl ?_
        refine tl_if_le (tgt := 128) rfl rfl ⟨by omega, by omega⟩ (fun c2 => ?_) (fun c2 => ?_)
        · skip
          refine tl_iconst rfl ?_
          refine tl_iadd rfl ?_
          refine tl_puti (c := 12) (k9 := 16) rfl rfl rfl rfl ?_
          refine tl_iinc rfl rfl rfl ?_
          show jT _ _ 136 _ _ _ _
          refine tl_goto (tgt := 17) rfl rfl ?_
          show jT _ _ 17 _ _ _ _
          -- leaf 0 at 17
          first
            | (exfalso; omega)
            | (refine ih (k + 1) _ _ _ (Or.inr ⟨_, rfl⟩) (Or.inr ⟨_, rfl⟩) (by omega) (by omega) ⟨?_, ?_, ?_, fun x hx => ?_, fun q hq => ?_⟩
               · rw [eM, if_pos (by omega), hs_k (by decide)]; first | exact j1 | rw [hs_k (by decide), hs_k (by decide), hs_s]
               · rw [eW, if_pos (by omega), hs_k (by decide)]; first | exact j2 | rw [hs_k (by decide), hs_s]
               · rw [eC, if_pos (by omega), hs_s]; try omega
               · rw [hs_O hx]; first | exact j4 x hx | (rw [hs_O hx, hs_O hx, hs_O hx]; exact j4 x hx)
               · rw [hs_k (by omega)]; first | exact j5 q hq | (rw [hs_k (by omega), hs_k (by omega), hs_k (by omega)]; exact j5 q hq))
            | (refine ih (k + 1) _ _ _ (Or.inr ⟨_, rfl⟩) (Or.inr ⟨_, rfl⟩) (by omega) (by omega) ⟨?_, ?_, ?_, fun x hx => ?_, fun q hq => ?_⟩
               · rw [eM, if_neg (by omega), hs_k (by decide)]; first | exact j1 | rw [hs_k (by decide), hs_k (by decide), hs_s]
               · rw [eW, if_neg (by omega), hs_k (by decide)]; first | exact j2 | rw [hs_k (by decide), hs_s]
               · rw [eC, if_neg (by omega), if_pos (by omega), hs_s]; try omega
               · rw [hs_O hx]; first | exact j4 x hx | (rw [hs_O hx, hs_O hx, hs_O hx]; exact j4 x hx)
               · rw [hs_k (by omega)]; first | exact j5 q hq | (rw [hs_k (by omega), hs_k (by omega), hs_k (by omega)]; exact j5 q hq))
            | (refine ih (k + 1) _ _ _ (Or.inr ⟨_, rfl⟩) (Or.inr ⟨_, rfl⟩) (by omega) (by omega) ⟨?_, ?_, ?_, fun x hx => ?_, fun q hq => ?_⟩
               · rw [eM, if_neg (by omega), hs_k (by decide)]; first | exact j1 | rw [hs_k (by decide), hs_k (by decide), hs_s]
               · rw [eW, if_neg (by omega), hs_k (by decide)]; first | exact j2 | rw [hs_k (by decide), hs_s]
               · rw [eC, if_neg (by omega), if_neg (by omega), hs_s]; try omega
               · rw [hs_O hx]; first | exact j4 x hx | (rw [hs_O hx, hs_O hx, hs_O hx]; exact j4 x hx)
               · rw [hs_k (by omega)]; first | exact j5 q hq | (rw [hs_k (by omega), hs_k (by omega), hs_k (by omega)]; exact j5 q hq))
        · show jT _ _ 115 _ _ _ _
          refine tl_iload rfl rfl ?_
          refine tl_aload_n rfl rfl ?_
          refine tl_geti (c := 12) (k9 := 14) rfl rfl rfl ?_
          first | rw [hs_k (by decide), hs_k (by decide), hs_s] | rw [j1]
          refine tl_icmp_ne (tgt := 128) rfl rfl ⟨by omega, by omega⟩ ⟨by omega, by omega⟩ (fun c3 => ?_) (fun c3 => ?_)
          · skip
            refine tl_iconst rfl ?_
            refine tl_iadd rfl ?_
            show jT _ _ 130 _ _ _ _
            refine tl_puti (c := 12) (k9 := 16) rfl rfl rfl rfl ?_
            refine tl_iinc rfl rfl rfl ?_
            refine tl_goto (tgt := 17) rfl rfl ?_
            show jT _ _ 17 _ _ _ _
            -- leaf 1 at 17
            first
              | (exfalso; omega)
              | (refine ih (k + 1) _ _ _ (Or.inr ⟨_, rfl⟩) (Or.inr ⟨_, rfl⟩) (by omega) (by omega) ⟨?_, ?_, ?_, fun x hx => ?_, fun q hq => ?_⟩
                 · rw [eM, if_pos (by omega), hs_k (by decide)]; first | exact j1 | rw [hs_k (by decide), hs_k (by decide), hs_s]
                 · rw [eW, if_pos (by omega), hs_k (by decide)]; first | exact j2 | rw [hs_k (by decide), hs_s]
                 · rw [eC, if_pos (by omega), hs_s]; try omega
                 · rw [hs_O hx]; first | exact j4 x hx | (rw [hs_O hx, hs_O hx, hs_O hx]; exact j4 x hx)
                 · rw [hs_k (by omega)]; first | exact j5 q hq | (rw [hs_k (by omega), hs_k (by omega), hs_k (by omega)]; exact j5 q hq))
              | (refine ih (k + 1) _ _ _ (Or.inr ⟨_, rfl⟩) (Or.inr ⟨_, rfl⟩) (by omega) (by omega) ⟨?_, ?_, ?_, fun x hx => ?_, fun q hq => ?_⟩
                 · rw [eM, if_neg (by omega), hs_k (by decide)]; first | exact j1 | rw [hs_k (by decide), hs_k (by decide), hs_s]
                 · rw [eW, if_neg (by omega), hs_k (by decide)]; first | exact j2 | rw [hs_k (by decide), hs_s]
                 · rw [eC, if_neg (by omega), if_pos (by omega), hs_s]; try omega
                 · rw [hs_O hx]; first | exact j4 x hx | (rw [hs_O hx, hs_O hx, hs_O hx]; exact j4 x hx)
                 · rw [hs_k (by omega)]; first | exact j5 q hq | (rw [hs_k (by omega), hs_k (by omega), hs_k (by omega)]; exact j5 q hq))
              | (refine ih (k + 1) _ _ _ (Or.inr ⟨_, rfl⟩) (Or.inr ⟨_, rfl⟩) (by omega) (by omega) ⟨?_, ?_, ?_, fun x hx => ?_, fun q hq => ?_⟩
                 · rw [eM, if_neg (by omega), hs_k (by decide)]; first | exact j1 | rw [hs_k (by decide), hs_k (by decide), hs_s]
                 · rw [eW, if_neg (by omega), hs_k (by decide)]; first | exact j2 | rw [hs_k (by decide), hs_s]
                 · rw [eC, if_neg (by omega), if_neg (by omega), hs_s]; try omega
                 · rw [hs_O hx]; first | exact j4 x hx | (rw [hs_O hx, hs_O hx, hs_O hx]; exact j4 x hx)
                 · rw [hs_k (by omega)]; first | exact j5 q hq | (rw [hs_k (by omega), hs_k (by omega), hs_k (by omega)]; exact j5 q hq))
          · show jT _ _ 124 _ _ _ _
            refine tl_iconst rfl ?_
            refine tl_goto (tgt := 129) rfl rfl ?_
            refine tl_iadd rfl ?_
            refine tl_puti (c := 12) (k9 := 16) rfl rfl rfl rfl ?_
            show jT _ _ 133 _ _ _ _
            refine tl_iinc rfl rfl rfl ?_
            refine tl_goto (tgt := 17) rfl rfl ?_
            show jT _ _ 17 _ _ _ _
            -- leaf 2 at 17
            first
              | (exfalso; omega)
              | (refine ih (k + 1) _ _ _ (Or.inr ⟨_, rfl⟩) (Or.inr ⟨_, rfl⟩) (by omega) (by omega) ⟨?_, ?_, ?_, fun x hx => ?_, fun q hq => ?_⟩
                 · rw [eM, if_pos (by omega), hs_k (by decide)]; first | exact j1 | rw [hs_k (by decide), hs_k (by decide), hs_s]
                 · rw [eW, if_pos (by omega), hs_k (by decide)]; first | exact j2 | rw [hs_k (by decide), hs_s]
                 · rw [eC, if_pos (by omega), hs_s]; try omega
                 · rw [hs_O hx]; first | exact j4 x hx | (rw [hs_O hx, hs_O hx, hs_O hx]; exact j4 x hx)
                 · rw [hs_k (by omega)]; first | exact j5 q hq | (rw [hs_k (by omega), hs_k (by omega), hs_k (by omega)]; exact j5 q hq))
              | (refine ih (k + 1) _ _ _ (Or.inr ⟨_, rfl⟩) (Or.inr ⟨_, rfl⟩) (by omega) (by omega) ⟨?_, ?_, ?_, fun x hx => ?_, fun q hq => ?_⟩
                 · rw [eM, if_neg (by omega), hs_k (by decide)]; first | exact j1 | rw [hs_k (by decide), hs_k (by decide), hs_s]
                 · rw [eW, if_neg (by omega), hs_k (by decide)]; first | exact j2 | rw [hs_k (by decide), hs_s]
                 · rw [eC, if_neg (by omega), if_pos (by omega), hs_s]; try omega
                 · rw [hs_O hx]; first | exact j4 x hx | (rw [hs_O hx, hs_O hx, hs_O hx]; exact j4 x hx)
                 · rw [hs_k (by omega)]; first | exact j5 q hq | (rw [hs_k (by omega), hs_k (by omega), hs_k (by omega)]; exact j5 q hq))
              | (refine ih (k + 1) _ _ _ (Or.inr ⟨_, rfl⟩) (Or.inr ⟨_, rfl⟩) (by omega) (by omega) ⟨?_, ?_, ?_, fun x hx => ?_, fun q hq => ?_⟩
                 · rw [eM, if_neg (by omega), hs_k (by decide)]; first | exact j1 | rw [hs_k (by decide), hs_k (by decide), hs_s]
                 · rw [eW, if_neg (by omega), hs_k (by decide)]; first | exact j2 | rw [hs_k (by decide), hs_s]
                 · rw [eC, if_neg (by omega), if_neg (by omega), hs_s]; try omega
                 · rw [hs_O hx]; first | exact j4 x hx | (rw [hs_O hx, hs_O hx, hs_O hx]; exact j4 x hx)
                 · rw [hs_k (by omega)]; first | exact j5 q hq | (rw [hs_k (by omega), hs_k (by omega), hs_k (by omega)]; exact j5 q hq))
      · show jT _ _ 89 _ _ _ _
        refine tl_aload_n rfl rfl ?_
        refine tl_iload rfl rfl ?_
        refine tl_puti (c := 12) (k9 := 14) rfl rfl rfl rfl ?_
        refine tl_aload_n rfl rfl ?_
        refine tl_iload_n rfl rfl ?_
        show jT _ _ 97 _ _ _ _
        refine tl_puti (c := 12) (k9 := 15) rfl rfl rfl rfl ?_
        refine tl_aload_n rfl rfl ?_
        refine tl_iconst rfl ?_
        refine tl_puti (c := 12) (k9 := 16) rfl rfl rfl rfl ?_
        refine tl_aload_n rfl rfl ?_
        refine tl_dup rfl rfl ?_
        refine tl_geti (c := 12) (k9 := 16) rfl rfl rfl ?_
        try rw [hs_s]
        try rw [j3]
        show jT _ _ 110 _ _ _ _
        refine tl_iload rfl rfl ?_
        refine tl_if_le (tgt := 128) rfl rfl ⟨by omega, by omega⟩ (fun c4 => ?_) (fun c4 => ?_)
        · skip
          refine tl_iconst rfl ?_
          refine tl_iadd rfl ?_
          refine tl_puti (c := 12) (k9 := 16) rfl rfl rfl rfl ?_
          refine tl_iinc rfl rfl rfl ?_
          refine tl_goto (tgt := 17) rfl rfl ?_
          show jT _ _ 17 _ _ _ _
          -- leaf 3 at 17
          first
            | (exfalso; omega)
            | (refine ih (k + 1) _ _ _ (Or.inr ⟨_, rfl⟩) (Or.inr ⟨_, rfl⟩) (by omega) (by omega) ⟨?_, ?_, ?_, fun x hx => ?_, fun q hq => ?_⟩
               · rw [eM, if_pos (by omega), hs_k (by decide)]; first | exact j1 | rw [hs_k (by decide), hs_k (by decide), hs_s]
               · rw [eW, if_pos (by omega), hs_k (by decide)]; first | exact j2 | rw [hs_k (by decide), hs_s]
               · rw [eC, if_pos (by omega), hs_s]; try omega
               · rw [hs_O hx]; first | exact j4 x hx | (rw [hs_O hx, hs_O hx, hs_O hx]; exact j4 x hx)
               · rw [hs_k (by omega)]; first | exact j5 q hq | (rw [hs_k (by omega), hs_k (by omega), hs_k (by omega)]; exact j5 q hq))
            | (refine ih (k + 1) _ _ _ (Or.inr ⟨_, rfl⟩) (Or.inr ⟨_, rfl⟩) (by omega) (by omega) ⟨?_, ?_, ?_, fun x hx => ?_, fun q hq => ?_⟩
               · rw [eM, if_neg (by omega), hs_k (by decide)]; first | exact j1 | rw [hs_k (by decide), hs_k (by decide), hs_s]
               · rw [eW, if_neg (by omega), hs_k (by decide)]; first | exact j2 | rw [hs_k (by decide), hs_s]
               · rw [eC, if_neg (by omega), if_pos (by omega), hs_s]; try omega
               · rw [hs_O hx]; first | exact j4 x hx | (rw [hs_O hx, hs_O hx, hs_O hx]; exact j4 x hx)
               · rw [hs_k (by omega)]; first | exact j5 q hq | (rw [hs_k (by omega), hs_k (by omega), hs_k (by omega)]; exact j5 q hq))
            | (refine ih (k + 1) _ _ _ (Or.inr ⟨_, rfl⟩) (Or.inr ⟨_, rfl⟩) (by omega) (by omega) ⟨?_, ?_, ?_, fun x hx => ?_, fun q hq => ?_⟩
               · rw [eM, if_neg (by omega), hs_k (by decide)]; first | exact j1 | rw [hs_k (by decide), hs_k (by decide), hs_s]
               · rw [eW, if_neg (by omega), hs_k (by decide)]; first | exact j2 | rw [hs_k (by decide), hs_s]
               · rw [eC, if_neg (by omega), if_neg (by omega), hs_s]; try omega
               · rw [hs_O hx]; first | exact j4 x hx | (rw [hs_O hx, hs_O hx, hs_O hx]; exact j4 x hx)
               · rw [hs_k (by omega)]; first | exact j5 q hq | (rw [hs_k (by omega), hs_k (by omega), hs_k (by omega)]; exact j5 q hq))
        · show jT _ _ 115 _ _ _ _
          show jT _ _ 115 _ _ _ _
          refine tl_iload rfl rfl ?_
          refine tl_aload_n rfl rfl ?_
          refine tl_geti (c := 12) (k9 := 14) rfl rfl rfl ?_
          first | rw [hs_k (by decide), hs_k (by decide), hs_s] | rw [j1]
          refine tl_icmp_ne (tgt := 128) rfl rfl ⟨by omega, by omega⟩ ⟨by omega, by omega⟩ (fun c5 => ?_) (fun c5 => ?_)
          · skip
            refine tl_iconst rfl ?_
            refine tl_iadd rfl ?_
            refine tl_puti (c := 12) (k9 := 16) rfl rfl rfl rfl ?_
            show jT _ _ 133 _ _ _ _
            refine tl_iinc rfl rfl rfl ?_
            refine tl_goto (tgt := 17) rfl rfl ?_
            show jT _ _ 17 _ _ _ _
            -- leaf 4 at 17
            first
              | (exfalso; omega)
              | (refine ih (k + 1) _ _ _ (Or.inr ⟨_, rfl⟩) (Or.inr ⟨_, rfl⟩) (by omega) (by omega) ⟨?_, ?_, ?_, fun x hx => ?_, fun q hq => ?_⟩
                 · rw [eM, if_pos (by omega), hs_k (by decide)]; first | exact j1 | rw [hs_k (by decide), hs_k (by decide), hs_s]
                 · rw [eW, if_pos (by omega), hs_k (by decide)]; first | exact j2 | rw [hs_k (by decide), hs_s]
                 · rw [eC, if_pos (by omega), hs_s]; try omega
                 · rw [hs_O hx]; first | exact j4 x hx | (rw [hs_O hx, hs_O hx, hs_O hx]; exact j4 x hx)
                 · rw [hs_k (by omega)]; first | exact j5 q hq | (rw [hs_k (by omega), hs_k (by omega), hs_k (by omega)]; exact j5 q hq))
              | (refine ih (k + 1) _ _ _ (Or.inr ⟨_, rfl⟩) (Or.inr ⟨_, rfl⟩) (by omega) (by omega) ⟨?_, ?_, ?_, fun x hx => ?_, fun q hq => ?_⟩
                 · rw [eM, if_neg (by omega), hs_k (by decide)]; first | exact j1 | rw [hs_k (by decide), hs_k (by decide), hs_s]
                 · rw [eW, if_neg (by omega), hs_k (by decide)]; first | exact j2 | rw [hs_k (by decide), hs_s]
                 · rw [eC, if_neg (by omega), if_pos (by omega), hs_s]; try omega
                 · rw [hs_O hx]; first | exact j4 x hx | (rw [hs_O hx, hs_O hx, hs_O hx]; exact j4 x hx)
                 · rw [hs_k (by omega)]; first | exact j5 q hq | (rw [hs_k (by omega), hs_k (by omega), hs_k (by omega)]; exact j5 q hq))
              | (refine ih (k + 1) _ _ _ (Or.inr ⟨_, rfl⟩) (Or.inr ⟨_, rfl⟩) (by omega) (by omega) ⟨?_, ?_, ?_, fun x hx => ?_, fun q hq => ?_⟩
                 · rw [eM, if_neg (by omega), hs_k (by decide)]; first | exact j1 | rw [hs_k (by decide), hs_k (by decide), hs_s]
                 · rw [eW, if_neg (by omega), hs_k (by decide)]; first | exact j2 | rw [hs_k (by decide), hs_s]
                 · rw [eC, if_neg (by omega), if_neg (by omega), hs_s]; try omega
                 · rw [hs_O hx]; first | exact j4 x hx | (rw [hs_O hx, hs_O hx, hs_O hx]; exact j4 x hx)
                 · rw [hs_k (by omega)]; first | exact j5 q hq | (rw [hs_k (by omega), hs_k (by omega), hs_k (by omega)]; exact j5 q hq))
          · show jT _ _ 124 _ _ _ _
            refine tl_iconst rfl ?_
            refine tl_goto (tgt := 129) rfl rfl ?_
            refine tl_iadd rfl ?_
            refine tl_puti (c := 12) (k9 := 16) rfl rfl rfl rfl ?_
            refine tl_iinc rfl rfl rfl ?_
            show jT _ _ 136 _ _ _ _
            refine tl_goto (tgt := 17) rfl rfl ?_
            show jT _ _ 17 _ _ _ _
            -- leaf 5 at 17
            first
              | (exfalso; omega)
              | (refine ih (k + 1) _ _ _ (Or.inr ⟨_, rfl⟩) (Or.inr ⟨_, rfl⟩) (by omega) (by omega) ⟨?_, ?_, ?_, fun x hx => ?_, fun q hq => ?_⟩
                 · rw [eM, if_pos (by omega), hs_k (by decide)]; first | exact j1 | rw [hs_k (by decide), hs_k (by decide), hs_s]
                 · rw [eW, if_pos (by omega), hs_k (by decide)]; first | exact j2 | rw [hs_k (by decide), hs_s]
                 · rw [eC, if_pos (by omega), hs_s]; try omega
                 · rw [hs_O hx]; first | exact j4 x hx | (rw [hs_O hx, hs_O hx, hs_O hx]; exact j4 x hx)
                 · rw [hs_k (by omega)]; first | exact j5 q hq | (rw [hs_k (by omega), hs_k (by omega), hs_k (by omega)]; exact j5 q hq))
              | (refine ih (k + 1) _ _ _ (Or.inr ⟨_, rfl⟩) (Or.inr ⟨_, rfl⟩) (by omega) (by omega) ⟨?_, ?_, ?_, fun x hx => ?_, fun q hq => ?_⟩
                 · rw [eM, if_neg (by omega), hs_k (by decide)]; first | exact j1 | rw [hs_k (by decide), hs_k (by decide), hs_s]
                 · rw [eW, if_neg (by omega), hs_k (by decide)]; first | exact j2 | rw [hs_k (by decide), hs_s]
                 · rw [eC, if_neg (by omega), if_pos (by omega), hs_s]; try omega
                 · rw [hs_O hx]; first | exact j4 x hx | (rw [hs_O hx, hs_O hx, hs_O hx]; exact j4 x hx)
                 · rw [hs_k (by omega)]; first | exact j5 q hq | (rw [hs_k (by omega), hs_k (by omega), hs_k (by omega)]; exact j5 q hq))
              | (refine ih (k + 1) _ _ _ (Or.inr ⟨_, rfl⟩) (Or.inr ⟨_, rfl⟩) (by omega) (by omega) ⟨?_, ?_, ?_, fun x hx => ?_, fun q hq => ?_⟩
                 · rw [eM, if_neg (by omega), hs_k (by decide)]; first | exact j1 | rw [hs_k (by decide), hs_k (by decide), hs_s]
                 · rw [eW, if_neg (by omega), hs_k (by decide)]; first | exact j2 | rw [hs_k (by decide), hs_s]
                 · rw [eC, if_neg (by omega), if_neg (by omega), hs_s]; try omega
                 · rw [hs_O hx]; first | exact j4 x hx | (rw [hs_O hx, hs_O hx, hs_O hx]; exact j4 x hx)
                 · rw [hs_k (by omega)]; first | exact j5 q hq | (rw [hs_k (by omega), hs_k (by omega), hs_k (by omega)]; exact j5 q hq))
set_option maxRecDepth 20000 in
set_option maxHeartbeats 1000000 in
theorem r_layMatch (l : Launch) (h : jH) (R : Nat → Int) (hR : h 390 = R) (ok : Rok R) (i : Int) (i0 : 0 ≤ i) (i64 : i < 64) : cV l 241 [.ref 388, .int (jI i)] h (fun h' => (h' 388 14 = mtM R i (R 5).toNat ∧ h' 388 15 = mtW R i (R 5).toNat ∧ h' 388 16 = mtC R i (R 5).toNat ∧ (∀ x, x ≠ 388 → h' x = h x) ∧ ∀ q, (q < 14 ∨ 16 < q) → h' 388 q = h 388 q)) := by
  refine cV.of rfl rfl ?_
  refine tl_aload_n rfl rfl ?_
  refine tl_iconst rfl ?_
  refine tl_puti (c := 12) (k9 := 14) rfl rfl rfl rfl ?_
  refine tl_aload_n rfl rfl ?_
  refine tl_iconst rfl ?_
  refine tl_puti (c := 12) (k9 := 15) rfl rfl rfl rfl ?_
  show jT _ _ 10 _ _ _ _
  refine tl_aload_n rfl rfl ?_
  refine tl_iconst rfl ?_
  refine tl_puti (c := 12) (k9 := 16) rfl rfl rfl rfl ?_
  refine tl_iconst rfl ?_
  refine tl_istore_n rfl (Nat.le_of_ble_eq_true rfl) rfl ?_
  show jT _ _ 17 _ _ _ _
  -- leaf 0 at 17
  refine r_layM_lp l h R hR ok i i0 i64 _ (fun mem hi => ⟨rfl, hi⟩) _ 0 _ none none (Or.inl rfl) (Or.inl rfl) (Nat.lt_succ_self _) (Nat.zero_le _) ⟨?_, ?_, hs_s, fun x hx => ?_, fun q hq => ?_⟩
  · rw [hs_k (by decide), hs_k (by decide), hs_s]; rfl
  · rw [hs_k (by decide), hs_s]; rfl
  · rw [hs_O hx, hs_O hx, hs_O hx]
  · rw [hs_k (by omega), hs_k (by omega), hs_k (by omega)]
set_option maxRecDepth 20000 in
set_option maxHeartbeats 1000000 in
theorem r_match (l : Launch) (g h : jH) (t i w : Int) (hI0 : IC g h t) (hi : jr i) (hw9 : jr w) : cI l 242 [.ref 388, .int (jI i), .int (jI w)] h (PRF (Dmatch (Tz h) i w)) := by
  have i1 := hi.1
  have i2 := hi.2
  have w1 := hw9.1
  have w2 := hw9.2
  refine cI.of rfl rfl ?_
  refine tl_aload_n rfl rfl ?_
  refine tl_iconst rfl ?_
  refine tl_puti (c := 12) (k9 := 0) rfl rfl rfl rfl ?_
  have hI := hI0.z
  change jT _ _ _ _ _ (Tz h) _
  generalize Tz h = m at hI ⊢
  have ok := hI.ok
  have k3 := ok.2.2.1
  have k4 := ok.2.2.2.1
  refine tl_iload_n rfl rfl ?_
  refine tl_i2l rfl ⟨by omega, by omega⟩ ?_
  refine tl_lconst (z := 0) rfl rfl ?_
  show jT _ _ 8 _ _ _ _
  refine tl_aload_n rfl rfl ?_
  refine tl_iconst rfl ?_
  refine tl_v1i (c9 := 12) (c_sizeOf l _ 1 (by decide) (by decide)) rfl rfl rfl rfl rfl (Nat.le_of_ble_eq_true rfl) (fun z1 h1 p1 => ?_)
  obtain ⟨q1, rfl⟩ := p1
  have q1 := q1.symm
  subst q1
  rw [show (5 + 65 * 1 : Int).toNat = 70 from rfl]
  refine tl_i2l rfl ⟨by omega, by omega⟩ ?_
  refine tl_lconst (z := 1) rfl rfl ?_
  refine tl_lsub rfl ?_
  refine tl_s3i (c_in l _ _ _ _ ⟨by omega, by omega⟩ ⟨by omega, by omega⟩ ⟨by omega, by omega⟩) rfl rfl rfl (Nat.le_of_ble_eq_true rfl) (fun z2 h2 p2 => ?_)
  obtain ⟨q2, p2⟩ := p2
  have q2 := q2.symm
  subst q2
  have b2 : z2 = 0 ∨ z2 = 1 := by rw [p2]; split <;> omega
  show jT _ _ 19 _ _ _ _
  refine tl_if_ne (tgt := 24) rfl rfl ⟨by omega, by omega⟩ (fun c1 => ?_) (fun c1 => ?_)
  · skip
    refine tl_aload_n rfl rfl ?_
    refine tl_iload_n rfl rfl ?_
    refine tl_v1v (c9 := 12) (r_layMatch l m (m 390) rfl ok i (by omega) (by omega)) rfl rfl rfl rfl rfl (Nat.le_of_ble_eq_true rfl) (fun h1 p1 => ?_)
    obtain ⟨j1, j2, j3, j4, j5⟩ := p1
    have rf : RF m h1 := RF.of (fun x hx => j4 x (by omega)) (fun q hq => j5 q (by omega))
    refine tl_iload_n rfl rfl ?_
    refine tl_if_ne (tgt := 40) rfl rfl ⟨by omega, by omega⟩ (fun c2 => ?_) (fun c2 => ?_)
    · skip
      refine tl_iload_n rfl rfl ?_
      show jT _ _ 41 _ _ _ _
      refine tl_iconst rfl ?_
      refine tl_icmp_ne (tgt := 52) rfl rfl ⟨by omega, by omega⟩ ⟨by omega, by omega⟩ (fun c3 => ?_) (fun c3 => ?_)
      · skip
        refine tl_iload_n rfl rfl ?_
        refine tl_iconst rfl ?_
        refine tl_icmp_ne (tgt := 64) rfl rfl ⟨by omega, by omega⟩ ⟨by omega, by omega⟩ (fun c4 => ?_) (fun c4 => ?_)
        · skip
          refine tl_iconst rfl ?_
          refine tl_iret rfl ?_
          -- leaf 0 at 65
          refine ⟨_, rfl, ?_⟩
          rw [Dmatch, Am]
          repeat (first | rw [if_pos (by omega)] | rw [if_neg (by omega)])
          exact PRF.rd rf
        · show jT _ _ 57 _ _ _ _
          show jT _ _ 57 _ _ _ _
          refine tl_aload_n rfl rfl ?_
          refine tl_geti (c := 12) (k9 := 16) rfl rfl rfl ?_
          rw [j3]
          refine tl_goto (tgt := 65) rfl rfl ?_
          refine tl_iret rfl ?_
          -- leaf 1 at 65
          refine ⟨_, rfl, ?_⟩
          rw [Dmatch, Am]
          repeat (first | rw [if_pos (by omega)] | rw [if_neg (by omega)])
          exact PRF.rd rf
      · show jT _ _ 45 _ _ _ _
        refine tl_aload_n rfl rfl ?_
        refine tl_geti (c := 12) (k9 := 15) rfl rfl rfl ?_
        rw [j2]
        refine tl_goto (tgt := 65) rfl rfl ?_
        show jT _ _ 65 _ _ _ _
        refine tl_iret rfl ?_
        -- leaf 2 at 65
        refine ⟨_, rfl, ?_⟩
        rw [Dmatch, Am]
        repeat (first | rw [if_pos (by omega)] | rw [if_neg (by omega)])
        exact PRF.rd rf
    · show jT _ _ 33 _ _ _ _
      refine tl_aload_n rfl rfl ?_
      refine tl_geti (c := 12) (k9 := 14) rfl rfl rfl ?_
      rw [j1]
      refine tl_goto (tgt := 65) rfl rfl ?_
      refine tl_iret rfl ?_
      -- leaf 3 at 65
      refine ⟨_, rfl, ?_⟩
      rw [Dmatch, Am]
      repeat (first | rw [if_pos (by omega)] | rw [if_neg (by omega)])
      exact PRF.rd rf
  · show jT _ _ 22 _ _ _ _
    refine tl_iconst rfl ?_
    refine tl_iret rfl ?_
    -- leaf 4 at 23
    refine ⟨_, rfl, ?_⟩
    rw [Dmatch, Am, if_neg (by omega)]
    exact PRF.rd RF.rfl'
