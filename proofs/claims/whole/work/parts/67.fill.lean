/-! a patch read: its origins, of the walked file -/
def bq (S : jH) (i : Nat) : Int := sm (fun q => S 2 q + S 3 q) i
def tq (S : jH) (i : Nat) : Int := sm (S 2) i
theorem bq_s {S : jH} {i : Nat} : bq S (i + 1) = bq S i + (S 2 i + S 3 i) := rfl
theorem tq_s {S : jH} {i : Nat} : tq S (i + 1) = tq S i + S 2 i := rfl
theorem PTI.bq' {N : Nat} {os ns : Int} {p0 n : Nat} {S : jH} (h : PTI N os ns p0 n S) : (∀ q, q < n → S 4 q = bq S q) ∧ S 0 3 = bq S n ∧ S 0 4 = tq S n ∧ ∀ q, q ≤ n → 0 ≤ tq S q ∧ tq S q ≤ bq S q ∧ bq S q ≤ S 0 3 ∧ tq S q ≤ tq S n ∧ bq S q - tq S q ≤ bq S n - tq S n := by
  obtain ⟨a1, a2, a3, a4, a5, a6, a7⟩ := h
  have g : ∀ q, q < n → S 4 q = bq S q := by
    intro q
    induction q with
    | zero => intro hq; exact a6 (by omega)
    | succ q ih =>
      intro hq
      have e := (a7 q (by omega)).2
      rw [if_pos hq, ih (by omega)] at e
      rw [bq_s]; omega
  have g2 : S 0 3 = bq S n := by
    by_cases c : n = 0
    · rw [c, a5 c]; rfl
    · have e := (a7 (n - 1) (by omega)).2
      rw [if_neg (by omega), g (n - 1) (by omega)] at e
      have : bq S n = bq S (n - 1) + (S 2 (n - 1) + S 3 (n - 1)) := by rw [show n = n - 1 + 1 by omega, bq_s, show n - 1 + 1 - 1 = n - 1 by omega]
      omega
  have g3 : ∀ q, q ≤ n → 0 ≤ tq S q ∧ tq S q ≤ bq S q := by
    intro q
    induction q with
    | zero => intro _; exact ⟨Int.le_refl _, Int.le_refl _⟩
    | succ q ih =>
      intro hq
      have := ih (by omega)
      have b := (a7 q (by omega)).1
      rw [tq_s, bq_s]; omega
  have g4 : ∀ k q, q + k = n → bq S q ≤ bq S n ∧ tq S q ≤ tq S n ∧ bq S q - tq S q ≤ bq S n - tq S n := by
    intro k
    induction k with
    | zero => intro q hq; rw [show q = n by omega]; exact ⟨Int.le_refl _, Int.le_refl _, Int.le_refl _⟩
    | succ k ih =>
      intro q hq
      have := ih (q + 1) (by omega)
      have b := (a7 q (by omega)).1
      rw [bq_s, tq_s] at this; omega
  exact ⟨g, g2, a4.2.2, fun q hq => ⟨(g3 q hq).1, (g3 q hq).2, by rw [g2]; exact (g4 (n - q) q (by omega)).1, (g4 (n - q) q (by omega)).2⟩⟩
/-- the origins that parts and rows tell -/
def rg (S : jH) (D X : List Int) : Nat → Nat → Nat → Int
  | 0 => fun _ _ => 0
  | i + 1 => fun r j => if bq S i ≤ (j : Int) ∧ (j : Int) < bq S i + S 2 i then (if r = 0 then S 1 i + ((j : Int) - bq S i) else D.getD (tq S i + ((j : Int) - bq S i)).toNat 0) else if bq S i + S 2 i ≤ (j : Int) ∧ (j : Int) < bq S (i + 1) then (if r = 0 then -1 else X.getD ((j : Int) - tq S (i + 1)).toNat 0) else rg S D X i r j
theorem rg_s {S : jH} {D X : List Int} {i r j : Nat} : rg S D X (i + 1) r j = if bq S i ≤ (j : Int) ∧ (j : Int) < bq S i + S 2 i then (if r = 0 then S 1 i + ((j : Int) - bq S i) else D.getD (tq S i + ((j : Int) - bq S i)).toNat 0) else if bq S i + S 2 i ≤ (j : Int) ∧ (j : Int) < bq S (i + 1) then (if r = 0 then -1 else X.getD ((j : Int) - tq S (i + 1)).toNat 0) else rg S D X i r j := rfl
set_option maxRecDepth 20000 in
set_option maxHeartbeats 1000000 in
theorem k_fo_A (l : Launch) (h : jH) (S : jH) (D X : List Int) (np N p0 : Nat) (os ns : Int) (I : PTI N os ns p0 np S) (ns64 : ns ≤ 64) (os64 : os ≤ 64) (n100 : np ≤ 99) (hp : h 339 4 = (np : Int)) (kp : PTK h S np) (kD : RL h 352 353 D) (kX : RL h 354 355 X) (lD : (D.length : Int) = tq S np) (lX : (X.length : Int) = S 0 3 - tq S np) (e3 : S 0 3 = ns) (i : Nat) (hi : i < np) (P : Option Value → jH → Prop) (hx : ∀ mem, (mem 345 2 = bq S i + S 2 i ∧ (∀ q : Nat, (q : Int) < bq S i + S 2 i → mem 346 q = rg S D X (i + 1) 0 q ∧ mem 347 q = rg S D X (i + 1) 1 q) ∧ (∀ x, (x < 345 ∨ 347 < x) → mem x = h x)) → jT l 76 75 [some (.ref 339), some (.int (jI (tq S (i + 1)))), some (.int (jI (bq S i - tq S i))), some (.int (jI ((i : Int)))), some (.int (jI (S 2 i)))] [] mem P) : ∀ (m : Nat) (k : Nat) (mem : jH), (S 2 i).toNat - k < m → ((k : Int) ≤ S 2 i ∧ mem 345 2 = bq S i + (k : Int) ∧ (∀ q : Nat, (q : Int) < bq S i + (k : Int) → mem 346 q = rg S D X (i + 1) 0 q ∧ mem 347 q = rg S D X (i + 1) 1 q) ∧ (∀ x, (x < 345 ∨ 347 < x) → mem x = h x)) → jT l 76 31 [some (.ref 339), some (.int (jI (tq S i + (k : Int)))), some (.int (jI (bq S i - tq S i))), some (.int (jI ((i : Int)))), some (.int (jI ((k : Int))))] [] mem P := by
  obtain ⟨g1, g2, g3, g4⟩ := I.bq'
  obtain ⟨a1, a2, a3, a4, a5, a6, a7⟩ := I
  clear a5 a6
  have o7 := (a7 i (by omega)).1
  have b4 := g4 i (by omega)
  have b5 := g4 (i + 1) (by omega)
  have b6 := g4 np (Nat.le_refl _)
  have bs := bq_s (S := S) (i := i)
  have ts := tq_s (S := S) (i := i)
  intro m
  induction m with
  | zero => intro k mem hk; omega
  | succ m ih =>
    intro k mem hk hi
    obtain ⟨i0, i1, i2, fr⟩ := hi
    have kDm : RL mem 352 353 D := kD.of (fr 352 (by omega)) (fr 353 (by omega))
    refine tl_iload rfl rfl ?_
    refine tl_aload_n rfl rfl ?_
    refine tl_getr (c := 6) (k9 := 6) (b := 341) rfl rfl rfl rfl ?_
    refine tl_iload_n rfl rfl ?_
    refine tl_iald (n := 100) rfl rfl rfl (by omega) (by omega) ?_
    rw [Int.toNat_natCast, fr 341 (by omega), (kp i (by omega)).2.1]
    refine tl_icmp_ge (tgt := 75) rfl rfl ⟨by omega, by omega⟩ ⟨by omega, by omega⟩ (fun c1 => ?_) (fun c1 => ?_)
    · skip
      show jT _ _ 75 _ _ _ _
      -- leaf 0 at 75
      have e : (k : Int) = S 2 i := by omega
      refine jT.loc ?_ (hx mem ⟨by rw [i1]; omega, fun q hq => i2 q (by omega), fr⟩)
      rw [ts, e]
      try rfl
    · show jT _ _ 42 _ _ _ _
      show jT _ _ 42 _ _ _ _
      refine tl_aload_n rfl rfl ?_
      refine tl_getr (c := 6) (k9 := 10) (b := 345) rfl rfl rfl rfl ?_
      refine tl_aload_n rfl rfl ?_
      refine tl_getr (c := 6) (k9 := 5) (b := 340) rfl rfl rfl rfl ?_
      refine tl_iload_n rfl rfl ?_
      refine tl_iald (n := 100) rfl rfl rfl (by omega) (by omega) ?_
      rw [Int.toNat_natCast, fr 340 (by omega), (kp i (by omega)).1]
      refine tl_iload rfl rfl ?_
      show jT _ _ 54 _ _ _ _
      refine tl_iadd rfl ?_
      refine tl_aload_n rfl rfl ?_
      refine tl_getr (c := 6) (k9 := 13) (b := 352) rfl rfl rfl rfl ?_
      refine tl_iload_n rfl rfl ?_
      refine tl_v1i (c9 := 8) (c_Row_get l R352 mem (tq S i + (k : Int)) (by rw [kDm.1]; omega) (by rw [kDm.1]; omega) ⟨by omega, by omega⟩) rfl rfl rfl rfl rfl (Nat.le_of_ble_eq_true rfl) (fun z1 h1 p1 => ?_)
      obtain ⟨q1, p1⟩ := p1
      have q1 := q1.symm
      subst q1
      rw [kDm.1, if_pos (by omega), kDm.2 _ (by omega)] at p1
      refine tl_v2v (c9 := 3) (c_Or_add l Or345 mem (S 1 i + (k : Int)) z1 (by omega) (by omega)) rfl rfl rfl rfl rfl (Nat.le_of_ble_eq_true rfl) (fun h2 p2 => ?_)
      rw [i1] at p2
      refine tl_iinc rfl rfl rfl ?_
      show jT _ _ 69 _ _ _ _
      refine tl_iinc rfl rfl rfl ?_
      refine tl_goto (tgt := 31) rfl rfl ?_
      show jT _ _ 31 _ _ _ _
      -- leaf 1 at 31
      refine jT.loc ?_ (ih (k + 1) h2 (by omega) ⟨by omega, by rw [p2, hs_s]; omega, fun q hq => ?_, fun x hx => by rw [p2, hs_O (by omega), hs_O (by omega), hs_O (by omega)]; exact fr x hx⟩)
      · rw [show tq S i + ((k + 1 : Nat) : Int) = tq S i + (k : Int) + 1 by omega]
        rfl
      · rw [p2, oadd_a Or345, oadd_b Or345]
        by_cases cq : q = (bq S i + (k : Int)).toNat
        · rw [if_pos cq, if_pos cq, rg_s, rg_s, if_pos (by omega), if_pos rfl, if_pos (by omega), if_neg (by decide)]
          exact ⟨by omega, by rw [p1]; congr 1; omega⟩
        · rw [if_neg cq, if_neg cq]; exact i2 q (by omega)
set_option maxRecDepth 20000 in
set_option maxHeartbeats 1000000 in
theorem k_fo_B (l : Launch) (h : jH) (S : jH) (D X : List Int) (np N p0 : Nat) (os ns : Int) (I : PTI N os ns p0 np S) (ns64 : ns ≤ 64) (os64 : os ≤ 64) (n100 : np ≤ 99) (hp : h 339 4 = (np : Int)) (kp : PTK h S np) (kD : RL h 352 353 D) (kX : RL h 354 355 X) (lD : (D.length : Int) = tq S np) (lX : (X.length : Int) = S 0 3 - tq S np) (e3 : S 0 3 = ns) (i : Nat) (hi : i < np) (P : Option Value → jH → Prop) (hx : ∀ mem, (mem 345 2 = bq S (i + 1) ∧ (∀ q : Nat, (q : Int) < bq S (i + 1) → mem 346 q = rg S D X (i + 1) 0 q ∧ mem 347 q = rg S D X (i + 1) 1 q) ∧ (∀ x, (x < 345 ∨ 347 < x) → mem x = h x)) → jT l 76 114 [some (.ref 339), some (.int (jI (tq S (i + 1)))), some (.int (jI (bq S (i + 1) - tq S (i + 1)))), some (.int (jI ((i : Int)))), some (.int (jI (S 3 i)))] [] mem P) : ∀ (m : Nat) (k : Nat) (mem : jH), (S 3 i).toNat - k < m → ((k : Int) ≤ S 3 i ∧ mem 345 2 = bq S i + S 2 i + (k : Int) ∧ (∀ q : Nat, (q : Int) < bq S i + S 2 i + (k : Int) → mem 346 q = rg S D X (i + 1) 0 q ∧ mem 347 q = rg S D X (i + 1) 1 q) ∧ (∀ x, (x < 345 ∨ 347 < x) → mem x = h x)) → jT l 76 78 [some (.ref 339), some (.int (jI (tq S (i + 1)))), some (.int (jI (bq S i - tq S i + (k : Int)))), some (.int (jI ((i : Int)))), some (.int (jI ((k : Int))))] [] mem P := by
  obtain ⟨g1, g2, g3, g4⟩ := I.bq'
  obtain ⟨a1, a2, a3, a4, a5, a6, a7⟩ := I
  clear a5 a6
  have o7 := (a7 i (by omega)).1
  have b4 := g4 i (by omega)
  have b5 := g4 (i + 1) (by omega)
  have b6 := g4 np (Nat.le_refl _)
  have bs := bq_s (S := S) (i := i)
  have ts := tq_s (S := S) (i := i)
  intro m
  induction m with
  | zero => intro k mem hk; omega
  | succ m ih =>
    intro k mem hk hi
    obtain ⟨i0, i1, i2, fr⟩ := hi
    have kXm : RL mem 354 355 X := kX.of (fr 354 (by omega)) (fr 355 (by omega))
    refine tl_iload rfl rfl ?_
    refine tl_aload_n rfl rfl ?_
    refine tl_getr (c := 6) (k9 := 7) (b := 342) rfl rfl rfl rfl ?_
    refine tl_iload_n rfl rfl ?_
    refine tl_iald (n := 100) rfl rfl rfl (by omega) (by omega) ?_
    rw [Int.toNat_natCast, fr 342 (by omega), (kp i (by omega)).2.2.1]
    refine tl_icmp_ge (tgt := 114) rfl rfl ⟨by omega, by omega⟩ ⟨by omega, by omega⟩ (fun c1 => ?_) (fun c1 => ?_)
    · skip
      show jT _ _ 114 _ _ _ _
      -- leaf 0 at 114
      have e : (k : Int) = S 3 i := by omega
      refine jT.loc ?_ (hx mem ⟨by rw [i1]; omega, fun q hq => i2 q (by omega), fr⟩)
      rw [show bq S (i + 1) - tq S (i + 1) = bq S i - tq S i + (k : Int) by omega, e]
      try rfl
    · show jT _ _ 89 _ _ _ _
      show jT _ _ 89 _ _ _ _
      refine tl_aload_n rfl rfl ?_
      refine tl_getr (c := 6) (k9 := 10) (b := 345) rfl rfl rfl rfl ?_
      refine tl_iconst rfl ?_
      refine tl_aload_n rfl rfl ?_
      refine tl_getr (c := 6) (k9 := 14) (b := 354) rfl rfl rfl rfl ?_
      refine tl_iload_n rfl rfl ?_
      refine tl_v1i (c9 := 8) (c_Row_get l R354 mem (bq S i - tq S i + (k : Int)) (by rw [kXm.1]; omega) (by rw [kXm.1]; omega) ⟨by omega, by omega⟩) rfl rfl rfl rfl rfl (Nat.le_of_ble_eq_true rfl) (fun z1 h1 p1 => ?_)
      obtain ⟨q1, p1⟩ := p1
      have q1 := q1.symm
      subst q1
      rw [kXm.1, if_pos (by omega), kXm.2 _ (by omega)] at p1
      show jT _ _ 102 _ _ _ _
      refine tl_v2v (c9 := 3) (c_Or_add l Or345 mem (-1) z1 (by omega) (by omega)) rfl rfl rfl rfl rfl (Nat.le_of_ble_eq_true rfl) (fun h2 p2 => ?_)
      rw [i1] at p2
      refine tl_iinc rfl rfl rfl ?_
      refine tl_iinc rfl rfl rfl ?_
      refine tl_goto (tgt := 78) rfl rfl ?_
      show jT _ _ 78 _ _ _ _
      -- leaf 1 at 78
      refine jT.loc ?_ (ih (k + 1) h2 (by omega) ⟨by omega, by rw [p2, hs_s]; omega, fun q hq => ?_, fun x hx => by rw [p2, hs_O (by omega), hs_O (by omega), hs_O (by omega)]; exact fr x hx⟩)
      · rw [show bq S i - tq S i + ((k + 1 : Nat) : Int) = bq S i - tq S i + (k : Int) + 1 by omega]
        rfl
      · rw [p2, oadd_a Or345, oadd_b Or345]
        by_cases cq : q = (bq S i + S 2 i + (k : Int)).toNat
        · rw [if_pos cq, if_pos cq, rg_s, rg_s, if_neg (by omega), if_pos (by omega), if_pos rfl, if_neg (by omega), if_pos (by omega), if_neg (by decide)]
          exact ⟨rfl, by rw [p1]; congr 1; omega⟩
        · rw [if_neg cq, if_neg cq]; exact i2 q (by omega)
set_option maxRecDepth 20000 in
set_option maxHeartbeats 1000000 in
theorem k_fo_lp (l : Launch) (h : jH) (S : jH) (D X : List Int) (np N p0 : Nat) (os ns : Int) (I : PTI N os ns p0 np S) (ns64 : ns ≤ 64) (os64 : os ≤ 64) (n100 : np ≤ 99) (hp : h 339 4 = (np : Int)) (kp : PTK h S np) (kD : RL h 352 353 D) (kX : RL h 354 355 X) (lD : (D.length : Int) = tq S np) (lX : (X.length : Int) = S 0 3 - tq S np) (e3 : S 0 3 = ns) (P : Option Value → jH → Prop) (hP : ∀ mem, (mem 345 2 = ns ∧ (∀ q : Nat, (q : Int) < ns → mem 346 q = rg S D X np 0 q ∧ mem 347 q = rg S D X np 1 q) ∧ (∀ x, (x < 345 ∨ 347 < x) → mem x = h x)) → P none mem) : ∀ (m : Nat) (i : Nat) (mem : jH) (y4 : Option Value), np - i < m → (i ≤ np ∧ mem 345 2 = bq S i ∧ (∀ q : Nat, (q : Int) < bq S i → mem 346 q = rg S D X i 0 q ∧ mem 347 q = rg S D X i 1 q) ∧ (∀ x, (x < 345 ∨ 347 < x) → mem x = h x)) → jT l 76 14 [some (.ref 339), some (.int (jI (tq S i))), some (.int (jI (bq S i - tq S i))), some (.int (jI ((i : Int)))), y4] [] mem P := by
  obtain ⟨g1, g2, g3, g4⟩ := I.bq'
  have a7 := I.2.2.2.2.2.2
  intro m
  induction m with
  | zero => intro i mem y4 hk; omega
  | succ m ih =>
    intro i mem y4 hk hi
    obtain ⟨i0, i1, i2, fr⟩ := hi
    refine tl_iload_n rfl rfl ?_
    refine tl_aload_n rfl rfl ?_
    refine tl_geti (c := 6) (k9 := 4) rfl rfl rfl ?_
    rw [fr 339 (by omega), hp]
    refine tl_icmp_ge (tgt := 120) rfl rfl ⟨by omega, by omega⟩ ⟨by omega, by omega⟩ (fun c1 => ?_) (fun c1 => ?_)
    · skip
      refine tl_ret rfl ?_
      -- leaf 0 at 120
      first
        | (exfalso; omega)
        | (have e : i = np := by omega
           rw [e] at i1 i2
           exact hP mem ⟨by rw [i1]; omega, fun q hq => i2 q (by omega), fr⟩)
    · show jT _ _ 22 _ _ _ _
      refine tl_iload_n rfl rfl ?_
      show jT _ _ 23 _ _ _ _
      refine tl_bipush rfl rfl ?_
      refine tl_icmp_ge (tgt := 120) rfl rfl ⟨by omega, by omega⟩ ⟨by omega, by omega⟩ (fun c2 => ?_) (fun c2 => ?_)
      · skip
        refine tl_ret rfl ?_
        -- leaf 1 at 120
        first
          | (exfalso; omega)
          | (have e : i = np := by omega
             rw [e] at i1 i2
             exact hP mem ⟨by rw [i1]; omega, fun q hq => i2 q (by omega), fr⟩)
      · show jT _ _ 28 _ _ _ _
        refine tl_iconst rfl ?_
        refine tl_istore rfl (Nat.le_of_ble_eq_true rfl) rfl ?_
        show jT _ _ 31 _ _ _ _
        -- leaf 2 at 31
        have o7 := (a7 i (by omega)).1
        refine jT.loc ?_ (k_fo_A l h S D X np N p0 os ns I ns64 os64 n100 hp kp kD kX lD lX e3 i (by omega) P (fun mem2 hj2 => ?_) _ 0 mem (Nat.lt_succ_self _) ⟨by omega, by rw [i1]; omega, fun q hq => ?_, fr⟩)
        · rw [show tq S i + ((0 : Nat) : Int) = tq S i by omega]
          rfl
        · skip
          refine tl_iconst rfl ?_
          refine tl_istore rfl (Nat.le_of_ble_eq_true rfl) rfl ?_
          show jT _ _ 78 _ _ _ _
          -- leaf 0 at 78
          refine jT.loc ?_ (k_fo_B l h S D X np N p0 os ns I ns64 os64 n100 hp kp kD kX lD lX e3 i (by omega) P (fun mem3 hj3 => ?_) _ 0 mem2 (Nat.lt_succ_self _) ⟨by omega, by rw [hj2.1]; omega, fun q hq => hj2.2.1 q (by omega), hj2.2.2⟩)
          · rw [show bq S i - tq S i + ((0 : Nat) : Int) = bq S i - tq S i by omega]
            rfl
          · skip
            refine tl_iinc rfl rfl rfl ?_
            refine tl_goto (tgt := 14) rfl rfl ?_
            show jT _ _ 14 _ _ _ _
            -- leaf 0 at 14
            refine jT.loc ?_ (ih (i + 1) mem3 (some (.int (jI (S 3 i)))) (by omega) ⟨by omega, hj3⟩)
            rfl
        · rw [rg_s, rg_s, if_neg (by omega), if_neg (by omega), if_neg (by omega), if_neg (by omega)]; exact i2 q (by omega)
set_option maxRecDepth 20000 in
set_option maxHeartbeats 1000000 in
theorem k_fillO (l : Launch) (h : jH) (S : jH) (D X : List Int) (np N p0 : Nat) (os ns : Int) (I : PTI N os ns p0 np S) (ns64 : ns ≤ 64) (os64 : os ≤ 64) (n100 : np ≤ 99) (hp : h 339 4 = (np : Int)) (kp : PTK h S np) (kD : RL h 352 353 D) (kX : RL h 354 355 X) (lD : (D.length : Int) = tq S np) (lX : (X.length : Int) = S 0 3 - tq S np) (e3 : S 0 3 = ns) : cV l 76 [.ref 339] h (fun h' => h' 345 2 = ns ∧ (∀ q : Nat, (q : Int) < ns → h' 346 q = rg S D X np 0 q ∧ h' 347 q = rg S D X np 1 q) ∧ (∀ x, (x < 345 ∨ 347 < x) → h' x = h x)) := by
  refine cV.of rfl rfl ?_
  refine tl_aload_n rfl rfl ?_
  refine tl_getr (c := 6) (k9 := 10) (b := 345) rfl rfl rfl rfl ?_
  refine tl_iconst rfl ?_
  refine tl_puti (c := 3) (k9 := 2) rfl rfl rfl rfl ?_
  refine tl_iconst rfl ?_
  refine tl_istore_n rfl (Nat.le_of_ble_eq_true rfl) rfl ?_
  show jT _ _ 10 _ _ _ _
  refine tl_iconst rfl ?_
  refine tl_istore_n rfl (Nat.le_of_ble_eq_true rfl) rfl ?_
  refine tl_iconst rfl ?_
  refine tl_istore_n rfl (Nat.le_of_ble_eq_true rfl) rfl ?_
  show jT _ _ 14 _ _ _ _
  -- leaf 0 at 14
  refine k_fo_lp l h S D X np N p0 os ns I ns64 os64 n100 hp kp kD kX lD lX e3 _ (fun mem hi => ⟨rfl, hi⟩) _ 0 _ none (Nat.lt_succ_self _) ⟨Nat.zero_le _, hs_s, fun q hq => absurd hq (by show ¬ (q : Int) < 0; omega), fun x hx => hs_O (by omega)⟩
