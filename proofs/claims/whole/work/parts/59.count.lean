/-! best, cheapest, count -/
def beE (R : Nat → Int) : Nat → Int × Int
  | 0 => (-1, 1000000)
  | k + 1 => if ((PKN R ((k : Int) + 2)).length : Int) < (beE R k).2 then ((k : Int) + 2, ((PKN R ((k : Int) + 2)).length : Int)) else beE R k
theorem beE_b {R : Nat → Int} (hR : Rok R) : ∀ k : Nat, (-1 ≤ (beE R k).1 ∧ (beE R k).1 ≤ (k : Int) + 1) ∧ (0 ≤ (beE R k).2 ∧ (beE R k).2 ≤ 1000000) ∧ (1 ≤ k → 2 ≤ (beE R k).1 ∧ (beE R k).2 ≤ 267) := by
  intro k
  induction k with
  | zero => exact ⟨⟨by show (-1 : Int) ≤ -1; omega, by show (-1 : Int) ≤ _; omega⟩, ⟨by show (0 : Int) ≤ 1000000; omega, Int.le_refl _⟩, fun h => by omega⟩
  | succ k ih =>
    have pb := PKN_b hR (lst := (k : Int) + 2) (by omega)
    rw [beE]
    by_cases c : ((PKN R ((k : Int) + 2)).length : Int) < (beE R k).2
    · rw [if_pos c]
      exact ⟨⟨by show -1 ≤ (k : Int) + 2; omega, by show (k : Int) + 2 ≤ _; omega⟩, ⟨by show 0 ≤ ((PKN R ((k : Int) + 2)).length : Int); omega, by show ((PKN R ((k : Int) + 2)).length : Int) ≤ _; omega⟩, fun _ => ⟨by show 2 ≤ (k : Int) + 2; omega, by show ((PKN R ((k : Int) + 2)).length : Int) ≤ _; omega⟩⟩
    · rw [if_neg c]
      by_cases k1 : 1 ≤ k
      · exact ⟨by omega, ih.2.1, fun _ => ih.2.2 k1⟩
      · have e0 : k = 0 := by omega
        subst e0
        exact absurd (show ((PKN R (((0 : Nat) : Int) + 2)).length : Int) < 1000000 by omega) c
def Abe (R : Nat → Int) (w : Int) : Int := if w = 0 then (beE R 8).1 else if w = 1 then (beE R 8).2 else -1
def Dbest (s : jH) (w : Int) : Int × jH := (Abe (s 390) w, s)
theorem Ag.best {s s' : jH} (h : Ag s s') (w : Int) : AgD (Dbest s w) (Dbest s' w) := AgD.rd h (by rw [h 390 (by decide)])
def cstF (g : jH) (i : Nat) : Int := if g 0 i = -1 then 2 else (if g 1 i = 0 then 0 else 1) + 3 * (1 - zb (gon g i))
theorem cst_b {g : jH} : ∀ n, 0 ≤ sm (cstF g) n ∧ sm (cstF g) n ≤ 4 * n := by
  intro n
  induction n with
  | zero => exact ⟨Int.le_refl _, by show (0 : Int) ≤ 4 * 0; omega⟩
  | succ n ih =>
    have := zb_b (gon g n)
    have e : sm (cstF g) (n + 1) = sm (cstF g) n + cstF g n := rfl
    rw [e, cstF]
    split
    · omega
    · split <;> omega
theorem cst_1 {g : jH} {i : Nat} (h : g 0 i = -1) : cstF g i = 2 := by rw [cstF, if_pos h]
theorem cst_2 {g : jH} {i : Nat} (h : g 0 i ≠ -1) (a b : Int) (ha : (if g 1 i = 0 then 0 else 1) = a) (hb : 3 * (1 - zb (gon g i)) = b) : cstF g i = a + b := by rw [cstF, if_neg h, ha, hb]
def Ach (R : Nat → Int) (w : Int) : Int := if w = 0 then Alc R else if w = 1 then sm (cstF (ogT R (R 0))) (R 70).toNat else -1
def Dcheapest (s : jH) (w : Int) : Int × jH := (Ach (s 390) w, s)
theorem Ag.cheapest {s s' : jH} (h : Ag s s') (w : Int) : AgD (Dcheapest s w) (Dcheapest s' w) := AgD.rd h (by rw [h 390 (by decide)])
def Aco (s : jH) (w : Int) : Int := if w = 0 then (anN (s 390) (s 390 0) : Int) else if w = 1 then ptn (ogT (s 390) (s 390 0)) (s 390 70).toNat else if w = 2 then ((PKN (s 390) (s 390 0)).length : Int) else if w = 3 then sm (fun i => s 390 (1103 + i)) 64 else if w = 4 then alk (fun i => s 390 (71 + i)) (fun i => s 390 (6 + i)) (min (s 390 70) (s 390 5)).toNat else if w = 5 then s 388 6 else if w = 6 then s 388 8 else if 7 ≤ w ∧ w ≤ 12 then s 389 (w - 6).toNat else if 13 ≤ w ∧ w ≤ 17 then s 390 (w - 13).toNat else -1
def Dcount (s : jH) (w : Int) : Int × jH := (Aco s w, s)
theorem Ag.count {s s' : jH} (h : Ag s s') (w : Int) : AgD (Dcount s w) (Dcount s' w) := AgD.rd h (by unfold Aco; rw [h 390 (by decide), h 388 (by decide), h 389 (by decide)])
set_option maxRecDepth 20000 in
set_option maxHeartbeats 1000000 in
theorem k_best_lp (l : Launch) (h : jH) (R : Nat → Int) (hR : RS h 1 R) (hT : Rt R) (ht : ∀ k, k < 5 → h 311 k = R k) (hM : ∀ q : Nat, (q : Int) < R 70 → h 315 q = mtM R (q : Int) (R 5).toNat ∧ h 316 q = mtW R (q : Int) (R 5).toNat) (w : Int) (P : Option Value → jH → Prop) (hx : ∀ mem k y, (∀ x, (x < 319 ∨ 338 < x) → mem x = h x) → jT l 184 93 [some (.ref 0), some (.int (jI (w))), some (.int (jI ((beE R 8).1))), some (.int (jI ((beE R 8).2))), some (.int (jI (k))), y] [] mem P) : ∀ (m : Nat) (k : Nat) (mem : jH) (y : Option Value), 8 - k < m → (k ≤ 8 ∧ ∀ x, (x < 319 ∨ 338 < x) → mem x = h x) → jT l 184 33 [some (.ref 0), some (.int (jI (w))), some (.int (jI ((beE R k).1))), some (.int (jI ((if k = 0 then 0 else (beE R k).2)))), some (.int (jI ((k : Int) + 2))), y] [] mem P := by
  have ok := hR.ok
  obtain ⟨k1, k2, k3, k4, k5, k6, k7⟩ := ok
  have ok := hR.ok
  intro m
  induction m with
  | zero => intro k mem y hk; omega
  | succ m ih =>
    intro k mem y hk hi
    obtain ⟨i0, fr⟩ := hi
    have hRm : RS mem 1 R := hR.of (fun x x1 x2 => fr x (by omega))
    have bb := beE_b ok k
    have es : beE R (k + 1) = if ((PKN R ((k : Int) + 2)).length : Int) < (beE R k).2 then ((k : Int) + 2, ((PKN R ((k : Int) + 2)).length : Int)) else beE R k := rfl
    have pb := PKN_b ok (lst := (k : Int) + 2) (by omega)
    have fb : 0 ≤ (if k = 0 then 0 else (beE R k).2) ∧ (if k = 0 then 0 else (beE R k).2) ≤ 1000000 := by split <;> omega
    have s9 : jst (3000000 + 1) (0 : Int).toNat = 9 := rfl
    have n0 : (k = 0 ∧ (beE R k).1 = -1 ∧ (beE R k).2 = 1000000 ∧ (if k = 0 then 0 else (beE R k).2) = 0) ∨ (k ≠ 0 ∧ 2 ≤ (beE R k).1 ∧ (beE R k).2 ≤ 267 ∧ (if k = 0 then 0 else (beE R k).2) = (beE R k).2) := by
      by_cases z : k = 0
      · refine Or.inl ⟨z, ?_, ?_, if_pos z⟩
        · subst z; rfl
        · subst z; rfl
      · exact Or.inr ⟨z, (bb.2.2 (by omega)).1, (bb.2.2 (by omega)).2, if_neg z⟩
    refine tl_iload rfl rfl ?_
    refine tl_gets rfl ?_
    refine tl_iconst rfl ?_
    refine tl_iald_st (q := 1) rfl (by decide) (by omega) (by omega) ?_
    rw [show jst (3000000 + 1) (Int.toNat 0) = 9 from rfl]
    refine tl_icmp_gt (tgt := 93) rfl rfl ⟨by omega, by omega⟩ ⟨by omega, by omega⟩ (fun c1 => ?_) (fun c1 => ?_)
    · skip
      show jT _ _ 93 _ _ _ _
      -- leaf 0 at 93
      have e : k = 8 := by omega
      rw [if_neg (by omega)]
      rw [e]
      exact hx mem _ _ fr
    · show jT _ _ 43 _ _ _ _
      refine tl_aload_n rfl rfl ?_
      show jT _ _ 44 _ _ _ _
      refine tl_getr (c := 11) (k9 := 11) (b := 319) rfl rfl rfl rfl ?_
      refine tl_aload_n rfl rfl ?_
      refine tl_getr (c := 11) (k9 := 0) (b := 1) rfl rfl rfl rfl ?_
      refine tl_aload_n rfl rfl ?_
      refine tl_getr (c := 11) (k9 := 10) (b := 313) rfl rfl rfl rfl ?_
      refine tl_aload_n rfl rfl ?_
      refine tl_getr (c := 11) (k9 := 6) (b := 311) rfl rfl rfl rfl ?_
      show jT _ _ 59 _ _ _ _
      refine tl_iload rfl rfl ?_
      refine tl_v4v (c9 := 0) (k_find l mem R hRm (fun q hq => by rw [fr 315 (by omega), fr 316 (by omega)]; exact hM q hq) hT (fun k hk => by rw [fr 311 (by omega)]; exact ht k hk) ((k : Int) + 2) (by omega) (by omega)) rfl rfl rfl rfl rfl (Nat.le_of_ble_eq_true rfl) (fun h2 p2 => ?_)
      obtain ⟨g1, g2, g3, g4, g5⟩ := p2
      refine tl_aload_n rfl rfl ?_
      refine tl_v0i (c9 := 11) (k_packA l h2 R (hRm.of (fun x x1 x2 => g5 x (by omega))) ((k : Int) + 2) (by omega) g3 g4) rfl rfl rfl rfl rfl (Nat.le_of_ble_eq_true rfl) (fun z3 h3 p3 => ?_)
      obtain ⟨rfl, k3, f3⟩ := p3
      refine tl_istore rfl (Nat.le_of_ble_eq_true rfl) rfl ?_
      refine tl_iload_n rfl rfl ?_
      refine tl_iconst rfl ?_
      show jT _ _ 72 _ _ _ _
      refine tl_icmp_eq (tgt := 81) rfl rfl ⟨by omega, by omega⟩ ⟨by omega, by omega⟩ (fun c2 => ?_) (fun c2 => ?_)
      · skip
        refine tl_iload rfl rfl ?_
        refine tl_istore_n rfl (Nat.le_of_ble_eq_true rfl) rfl ?_
        refine tl_iload rfl rfl ?_
        refine tl_istore_n rfl (Nat.le_of_ble_eq_true rfl) rfl ?_
        refine tl_iinc rfl rfl rfl ?_
        refine tl_goto (tgt := 33) rfl rfl ?_
        show jT _ _ 33 _ _ _ _
        -- leaf 1 at 33
        have fr3 : ∀ x, (x < 319 ∨ 338 < x) → h3 x = h x := fun x hx => by rw [f3 x (by omega), g5 x (by omega)]; exact fr x hx
        first
          | (exfalso; omega)
          | (rw [if_pos (by omega)] at es
             refine jT.loc ?_ (ih (k + 1) h3 (some (.int (jI (((PKN R ((k : Int) + 2)).length : Int))))) (by omega) ⟨by omega, fr3⟩)
             rw [es, if_neg (show ¬ k + 1 = 0 by omega), show ((k + 1 : Nat) : Int) + 2 = (k : Int) + 2 + 1 by omega]
             rfl)
          | (rw [if_neg (by omega)] at es
             refine jT.loc ?_ (ih (k + 1) h3 (some (.int (jI (((PKN R ((k : Int) + 2)).length : Int))))) (by omega) ⟨by omega, fr3⟩)
             rw [es, if_neg (show ¬ k + 1 = 0 by omega), show (if k = 0 then 0 else (beE R k).2) = (beE R k).2 by omega, show ((k + 1 : Nat) : Int) + 2 = (k : Int) + 2 + 1 by omega]
             rfl)
      · show jT _ _ 75 _ _ _ _
        show jT _ _ 75 _ _ _ _
        refine tl_iload rfl rfl ?_
        refine tl_iload_n rfl rfl ?_
        refine tl_icmp_ge (tgt := 87) rfl rfl ⟨by omega, by omega⟩ ⟨by omega, by omega⟩ (fun c3 => ?_) (fun c3 => ?_)
        · skip
          refine tl_iinc rfl rfl rfl ?_
          refine tl_goto (tgt := 33) rfl rfl ?_
          show jT _ _ 33 _ _ _ _
          -- leaf 2 at 33
          have fr3 : ∀ x, (x < 319 ∨ 338 < x) → h3 x = h x := fun x hx => by rw [f3 x (by omega), g5 x (by omega)]; exact fr x hx
          first
            | (exfalso; omega)
            | (rw [if_pos (by omega)] at es
               refine jT.loc ?_ (ih (k + 1) h3 (some (.int (jI (((PKN R ((k : Int) + 2)).length : Int))))) (by omega) ⟨by omega, fr3⟩)
               rw [es, if_neg (show ¬ k + 1 = 0 by omega), show ((k + 1 : Nat) : Int) + 2 = (k : Int) + 2 + 1 by omega]
               rfl)
            | (rw [if_neg (by omega)] at es
               refine jT.loc ?_ (ih (k + 1) h3 (some (.int (jI (((PKN R ((k : Int) + 2)).length : Int))))) (by omega) ⟨by omega, fr3⟩)
               rw [es, if_neg (show ¬ k + 1 = 0 by omega), show (if k = 0 then 0 else (beE R k).2) = (beE R k).2 by omega, show ((k + 1 : Nat) : Int) + 2 = (k : Int) + 2 + 1 by omega]
               rfl)
        · show jT _ _ 81 _ _ _ _
          refine tl_iload rfl rfl ?_
          refine tl_istore_n rfl (Nat.le_of_ble_eq_true rfl) rfl ?_
          show jT _ _ 84 _ _ _ _
          refine tl_iload rfl rfl ?_
          refine tl_istore_n rfl (Nat.le_of_ble_eq_true rfl) rfl ?_
          refine tl_iinc rfl rfl rfl ?_
          refine tl_goto (tgt := 33) rfl rfl ?_
          show jT _ _ 33 _ _ _ _
          -- leaf 3 at 33
          have fr3 : ∀ x, (x < 319 ∨ 338 < x) → h3 x = h x := fun x hx => by rw [f3 x (by omega), g5 x (by omega)]; exact fr x hx
          first
            | (exfalso; omega)
            | (rw [if_pos (by omega)] at es
               refine jT.loc ?_ (ih (k + 1) h3 (some (.int (jI (((PKN R ((k : Int) + 2)).length : Int))))) (by omega) ⟨by omega, fr3⟩)
               rw [es, if_neg (show ¬ k + 1 = 0 by omega), show ((k + 1 : Nat) : Int) + 2 = (k : Int) + 2 + 1 by omega]
               rfl)
            | (rw [if_neg (by omega)] at es
               refine jT.loc ?_ (ih (k + 1) h3 (some (.int (jI (((PKN R ((k : Int) + 2)).length : Int))))) (by omega) ⟨by omega, fr3⟩)
               rw [es, if_neg (show ¬ k + 1 = 0 by omega), show (if k = 0 then 0 else (beE R k).2) = (beE R k).2 by omega, show ((k + 1 : Nat) : Int) + 2 = (k : Int) + 2 + 1 by omega]
               rfl)
set_option maxRecDepth 20000 in
set_option maxHeartbeats 1000000 in
theorem k_best (l : Launch) (h s : jH) (t w : Int) (hI : IC h s t) (hw9 : jr w) : cI l 184 [.ref 0, .int (jI w)] h (PK h t (Dbest s w)) := by
  have w1 := hw9.1
  have w2 := hw9.2
  refine cI.of rfl rfl ?_
  refine tl_iload_n rfl rfl ?_
  refine tl_if_lt (tgt := 9) rfl rfl ⟨by omega, by omega⟩ (fun c1 => ?_) (fun c1 => ?_)
  · skip
    refine tl_iconst rfl ?_
    refine tl_iret rfl ?_
    -- leaf 0 at 10
    refine ⟨_, rfl, ?_⟩
    rw [Dbest, Abe, if_neg (by omega), if_neg (by omega)]
    exact PK.rd hI KF.rfl'
  · show jT _ _ 4 _ _ _ _
    refine tl_iload_n rfl rfl ?_
    refine tl_iconst rfl ?_
    show jT _ _ 6 _ _ _ _
    refine tl_icmp_le (tgt := 11) rfl rfl ⟨by omega, by omega⟩ ⟨by omega, by omega⟩ (fun c2 => ?_) (fun c2 => ?_)
    · skip
      refine tl_aload_n rfl rfl ?_
      refine tl_getr (c := 11) (k9 := 10) (b := 313) rfl rfl rfl rfl ?_
      refine tl_aload_n rfl rfl ?_
      refine tl_getr (c := 11) (k9 := 0) (b := 1) rfl rfl rfl rfl ?_
      refine tl_v1v (c9 := 10) (k_matchAll l h (s 390) hI.1) rfl rfl rfl rfl rfl (Nat.le_of_ble_eq_true rfl) (fun h1 p1 => ?_)
      obtain ⟨mr, fr⟩ := p1
      refine tl_iconst rfl ?_
      show jT _ _ 23 _ _ _ _
      refine tl_istore_n rfl (Nat.le_of_ble_eq_true rfl) rfl ?_
      refine tl_iconst rfl ?_
      refine tl_istore_n rfl (Nat.le_of_ble_eq_true rfl) rfl ?_
      refine tl_gets rfl ?_
      refine tl_iconst rfl ?_
      refine tl_iald_st (q := 0) rfl (by decide) (by omega) (by omega) ?_
      rw [show jst (3000000 + 0) (Int.toNat 0) = 2 from rfl]
      refine tl_istore rfl (Nat.le_of_ble_eq_true rfl) rfl ?_
      show jT _ _ 33 _ _ _ _
      -- leaf 1 at 33
      refine jT.loc ?_ (k_best_lp l h1 (s 390) (hI.1.of (fun x x1 x2 => fr x (by omega))) hI.rt (fun k hk => by rw [fr 311 (by omega)]; exact hI.te k hk) (fun q hq => ⟨(mr q hq).1, (mr q hq).2.1⟩) w _ (fun mem k y fr2 => ?_) _ 0 h1 none (Nat.lt_succ_self _) ⟨Nat.zero_le _, fun x _ => rfl⟩)
      · rw [if_pos rfl]; rfl
      · skip
        refine tl_iload_n rfl rfl ?_
        refine tl_if_ne (tgt := 101) rfl rfl ⟨by omega, by omega⟩ (fun c1 => ?_) (fun c1 => ?_)
        · skip
          refine tl_iload_n rfl rfl ?_
          refine tl_iret rfl ?_
          -- leaf 0 at 102
          refine ⟨_, rfl, ?_⟩
          rw [Dbest, Abe]
          repeat (first | rw [if_pos (by omega)] | rw [if_neg (by omega)])
          exact PK.rd hI (KF.of (fun x hx => by rw [fr2 x (by omega)]; exact fr x (by omega)))
        · show jT _ _ 97 _ _ _ _
          refine tl_iload_n rfl rfl ?_
          refine tl_goto (tgt := 102) rfl rfl ?_
          show jT _ _ 102 _ _ _ _
          refine tl_iret rfl ?_
          -- leaf 1 at 102
          refine ⟨_, rfl, ?_⟩
          rw [Dbest, Abe]
          repeat (first | rw [if_pos (by omega)] | rw [if_neg (by omega)])
          exact PK.rd hI (KF.of (fun x hx => by rw [fr2 x (by omega)]; exact fr x (by omega)))
    · show jT _ _ 9 _ _ _ _
      show jT _ _ 9 _ _ _ _
      refine tl_iconst rfl ?_
      refine tl_iret rfl ?_
      -- leaf 2 at 10
      refine ⟨_, rfl, ?_⟩
      rw [Dbest, Abe, if_neg (by omega), if_neg (by omega)]
      exact PK.rd hI KF.rfl'
set_option maxRecDepth 20000 in
set_option maxHeartbeats 1000000 in
theorem r_best_lp (l : Launch) (h : jH) (R : Nat → Int) (hR : h 390 = R) (ok : Rok R) (hT : Rt R) (w : Int) (P : Option Value → jH → Prop) (hx : ∀ mem k, ((∀ x, (x ≠ 388 ∧ (x < 398 ∨ 406 < x)) → mem x = h x) ∧ ∀ q, (q < 14 ∨ (29 < q)) → mem 388 q = h 388 q) → jT l 352 77 [some (.ref 388), some (.int (jI (w))), some (.int (jI ((beE R 8).1))), some (.int (jI ((beE R 8).2))), some (.int (jI (k)))] [] mem P) : ∀ (m : Nat) (k : Nat) (mem : jH), 8 - k < m → (k ≤ 8 ∧ ((∀ x, (x ≠ 388 ∧ (x < 398 ∨ 406 < x)) → mem x = h x) ∧ ∀ q, (q < 14 ∨ (29 < q)) → mem 388 q = h 388 q)) → jT l 352 26 [some (.ref 388), some (.int (jI (w))), some (.int (jI ((beE R k).1))), some (.int (jI ((beE R k).2))), some (.int (jI ((k : Int) + 2)))] [] mem P := by
  intro m
  induction m with
  | zero => intro k mem hk; omega
  | succ m ih =>
    intro k mem hk hi
    obtain ⟨i0, fr, fr2⟩ := hi
    have e390 : mem 390 = R := by rw [fr 390 (by omega)]; exact hR
    have bb := beE_b ok k
    have es : beE R (k + 1) = if ((PKN R ((k : Int) + 2)).length : Int) < (beE R k).2 then ((k : Int) + 2, ((PKN R ((k : Int) + 2)).length : Int)) else beE R k := rfl
    have pb := PKN_b ok (lst := (k : Int) + 2) (by omega)
    refine tl_iload rfl rfl ?_
    refine tl_bipush rfl rfl ?_
    refine tl_icmp_ge (tgt := 77) rfl rfl ⟨by omega, by omega⟩ ⟨by omega, by omega⟩ (fun c1 => ?_) (fun c1 => ?_)
    · skip
      show jT _ _ 77 _ _ _ _
      -- leaf 0 at 77
      have e : k = 8 := by omega
      rw [e]
      exact hx mem _ ⟨fr, fr2⟩
    · show jT _ _ 33 _ _ _ _
      refine tl_aload_n rfl rfl ?_
      refine tl_iload rfl rfl ?_
      refine tl_v1v (c9 := 12) (r_packNow l mem R e390 ok hT ((k : Int) + 2) (by omega) (by omega)) rfl rfl rfl rfl rfl (Nat.le_of_ble_eq_true rfl) (fun h1 p1 => ?_)
      obtain ⟨kL, g1, g2⟩ := p1
      show jT _ _ 39 _ _ _ _
      refine tl_aload_n rfl rfl ?_
      refine tl_geti (c := 12) (k9 := 27) rfl rfl rfl ?_
      rw [kL.1]
      refine tl_iload_n rfl rfl ?_
      refine tl_icmp_ge (tgt := 52) rfl rfl ⟨by omega, by omega⟩ ⟨by omega, by omega⟩ (fun c2 => ?_) (fun c2 => ?_)
      · skip
        refine tl_iload_n rfl rfl ?_
        refine tl_istore_n rfl (Nat.le_of_ble_eq_true rfl) rfl ?_
        refine tl_aload_n rfl rfl ?_
        show jT _ _ 55 _ _ _ _
        refine tl_geti (c := 12) (k9 := 27) rfl rfl rfl ?_
        rw [kL.1]
        refine tl_iload_n rfl rfl ?_
        refine tl_icmp_ge (tgt := 69) rfl rfl ⟨by omega, by omega⟩ ⟨by omega, by omega⟩ (fun c3 => ?_) (fun c3 => ?_)
        · skip
          refine tl_iload_n rfl rfl ?_
          refine tl_istore_n rfl (Nat.le_of_ble_eq_true rfl) rfl ?_
          refine tl_iinc rfl rfl rfl ?_
          refine tl_goto (tgt := 26) rfl rfl ?_
          show jT _ _ 26 _ _ _ _
          -- leaf 1 at 26
          first
            | (exfalso; omega)
            | (rw [if_pos (by omega)] at es
               refine jT.loc ?_ (ih (k + 1) h1 (by omega) ⟨by omega, fun x hx => by rw [g1 x hx]; exact fr x hx, fun q hq => by rw [g2 q hq]; exact fr2 q hq⟩)
               rw [es, show ((k + 1 : Nat) : Int) + 2 = (k : Int) + 2 + 1 by omega]
               rfl)
            | (rw [if_neg (by omega)] at es
               refine jT.loc ?_ (ih (k + 1) h1 (by omega) ⟨by omega, fun x hx => by rw [g1 x hx]; exact fr x hx, fun q hq => by rw [g2 q hq]; exact fr2 q hq⟩)
               rw [es, show ((k + 1 : Nat) : Int) + 2 = (k : Int) + 2 + 1 by omega]
               rfl)
        · show jT _ _ 62 _ _ _ _
          show jT _ _ 62 _ _ _ _
          refine tl_aload_n rfl rfl ?_
          refine tl_geti (c := 12) (k9 := 27) rfl rfl rfl ?_
          rw [kL.1]
          refine tl_goto (tgt := 70) rfl rfl ?_
          refine tl_istore_n rfl (Nat.le_of_ble_eq_true rfl) rfl ?_
          refine tl_iinc rfl rfl rfl ?_
          refine tl_goto (tgt := 26) rfl rfl ?_
          show jT _ _ 26 _ _ _ _
          -- leaf 2 at 26
          first
            | (exfalso; omega)
            | (rw [if_pos (by omega)] at es
               refine jT.loc ?_ (ih (k + 1) h1 (by omega) ⟨by omega, fun x hx => by rw [g1 x hx]; exact fr x hx, fun q hq => by rw [g2 q hq]; exact fr2 q hq⟩)
               rw [es, show ((k + 1 : Nat) : Int) + 2 = (k : Int) + 2 + 1 by omega]
               rfl)
            | (rw [if_neg (by omega)] at es
               refine jT.loc ?_ (ih (k + 1) h1 (by omega) ⟨by omega, fun x hx => by rw [g1 x hx]; exact fr x hx, fun q hq => by rw [g2 q hq]; exact fr2 q hq⟩)
               rw [es, show ((k + 1 : Nat) : Int) + 2 = (k : Int) + 2 + 1 by omega]
               rfl)
      · show jT _ _ 47 _ _ _ _
        refine tl_iload rfl rfl ?_
        show jT _ _ 49 _ _ _ _
        refine tl_goto (tgt := 53) rfl rfl ?_
        refine tl_istore_n rfl (Nat.le_of_ble_eq_true rfl) rfl ?_
        refine tl_aload_n rfl rfl ?_
        refine tl_geti (c := 12) (k9 := 27) rfl rfl rfl ?_
        rw [kL.1]
        refine tl_iload_n rfl rfl ?_
        refine tl_icmp_ge (tgt := 69) rfl rfl ⟨by omega, by omega⟩ ⟨by omega, by omega⟩ (fun c4 => ?_) (fun c4 => ?_)
        · skip
          refine tl_iload_n rfl rfl ?_
          show jT _ _ 70 _ _ _ _
          refine tl_istore_n rfl (Nat.le_of_ble_eq_true rfl) rfl ?_
          refine tl_iinc rfl rfl rfl ?_
          refine tl_goto (tgt := 26) rfl rfl ?_
          show jT _ _ 26 _ _ _ _
          -- leaf 3 at 26
          first
            | (exfalso; omega)
            | (rw [if_pos (by omega)] at es
               refine jT.loc ?_ (ih (k + 1) h1 (by omega) ⟨by omega, fun x hx => by rw [g1 x hx]; exact fr x hx, fun q hq => by rw [g2 q hq]; exact fr2 q hq⟩)
               rw [es, show ((k + 1 : Nat) : Int) + 2 = (k : Int) + 2 + 1 by omega]
               rfl)
            | (rw [if_neg (by omega)] at es
               refine jT.loc ?_ (ih (k + 1) h1 (by omega) ⟨by omega, fun x hx => by rw [g1 x hx]; exact fr x hx, fun q hq => by rw [g2 q hq]; exact fr2 q hq⟩)
               rw [es, show ((k + 1 : Nat) : Int) + 2 = (k : Int) + 2 + 1 by omega]
               rfl)
        · show jT _ _ 62 _ _ _ _
          refine tl_aload_n rfl rfl ?_
          refine tl_geti (c := 12) (k9 := 27) rfl rfl rfl ?_
          rw [kL.1]
          refine tl_goto (tgt := 70) rfl rfl ?_
          refine tl_istore_n rfl (Nat.le_of_ble_eq_true rfl) rfl ?_
          show jT _ _ 71 _ _ _ _
          refine tl_iinc rfl rfl rfl ?_
          refine tl_goto (tgt := 26) rfl rfl ?_
          show jT _ _ 26 _ _ _ _
          -- leaf 4 at 26
          first
            | (exfalso; omega)
            | (rw [if_pos (by omega)] at es
               refine jT.loc ?_ (ih (k + 1) h1 (by omega) ⟨by omega, fun x hx => by rw [g1 x hx]; exact fr x hx, fun q hq => by rw [g2 q hq]; exact fr2 q hq⟩)
               rw [es, show ((k + 1 : Nat) : Int) + 2 = (k : Int) + 2 + 1 by omega]
               rfl)
            | (rw [if_neg (by omega)] at es
               refine jT.loc ?_ (ih (k + 1) h1 (by omega) ⟨by omega, fun x hx => by rw [g1 x hx]; exact fr x hx, fun q hq => by rw [g2 q hq]; exact fr2 q hq⟩)
               rw [es, show ((k + 1 : Nat) : Int) + 2 = (k : Int) + 2 + 1 by omega]
               rfl)
set_option maxRecDepth 20000 in
set_option maxHeartbeats 1000000 in
theorem r_best (l : Launch) (g h : jH) (t w : Int) (hI0 : IC g h t) (hw9 : jr w) : cI l 352 [.ref 388, .int (jI w)] h (PRF (Dbest (Tz h) w)) := by
  have w1 := hw9.1
  have w2 := hw9.2
  refine cI.of rfl rfl ?_
  refine tl_aload_n rfl rfl ?_
  refine tl_iconst rfl ?_
  refine tl_puti (c := 12) (k9 := 0) rfl rfl rfl rfl ?_
  have hI := hI0.z
  change jT _ _ _ _ _ (Tz h) _
  generalize Tz h = m at hI ⊢
  have nu := hI.nund
  have ok := hI.ok
  have hT := hI.rt
  have q0 := hT.1
  refine tl_iload_n rfl rfl ?_
  refine tl_i2l rfl ⟨by omega, by omega⟩ ?_
  refine tl_lconst (z := 0) rfl rfl ?_
  show jT _ _ 8 _ _ _ _
  refine tl_lconst (z := 1) rfl rfl ?_
  refine tl_s3i (c_in l _ _ _ _ ⟨by omega, by omega⟩ ⟨by omega, by omega⟩ ⟨by omega, by omega⟩) rfl rfl rfl (Nat.le_of_ble_eq_true rfl) (fun z1 h1 p1 => ?_)
  obtain ⟨q1, p1⟩ := p1
  have q1 := q1.symm
  subst q1
  have b1 : z1 = 0 ∨ z1 = 1 := by rw [p1]; split <;> omega
  refine tl_if_ne (tgt := 17) rfl rfl ⟨by omega, by omega⟩ (fun c1 => ?_) (fun c1 => ?_)
  · skip
    refine tl_iconst rfl ?_
    refine tl_istore_n rfl (Nat.le_of_ble_eq_true rfl) rfl ?_
    refine tl_ldcw (z := 1000000) rfl rfl (by decide +kernel) ?_
    refine tl_istore_n rfl (Nat.le_of_ble_eq_true rfl) rfl ?_
    show jT _ _ 23 _ _ _ _
    refine tl_iconst rfl ?_
    refine tl_istore rfl (Nat.le_of_ble_eq_true rfl) rfl ?_
    show jT _ _ 26 _ _ _ _
    -- leaf 0 at 26
    refine r_best_lp l m (m 390) rfl ok hT w _ (fun mem k fr2 => ?_) _ 0 m (Nat.lt_succ_self _) ⟨Nat.zero_le _, fun x _ => rfl, fun q _ => rfl⟩
    refine tl_iload_n rfl rfl ?_
    refine tl_if_ne (tgt := 85) rfl rfl ⟨by omega, by omega⟩ (fun c1 => ?_) (fun c1 => ?_)
    · skip
      refine tl_iload_n rfl rfl ?_
      refine tl_iret rfl ?_
      -- leaf 0 at 86
      refine ⟨_, rfl, ?_⟩
      rw [Dbest, Abe]
      repeat (first | rw [if_pos (by omega)] | rw [if_neg (by omega)])
      exact PRF.rd (RF.of (fun x hx => fr2.1 x (by omega)) (fun q hq => fr2.2 q (by omega)))
    · show jT _ _ 81 _ _ _ _
      refine tl_iload_n rfl rfl ?_
      refine tl_goto (tgt := 86) rfl rfl ?_
      show jT _ _ 86 _ _ _ _
      refine tl_iret rfl ?_
      -- leaf 1 at 86
      refine ⟨_, rfl, ?_⟩
      rw [Dbest, Abe]
      repeat (first | rw [if_pos (by omega)] | rw [if_neg (by omega)])
      exact PRF.rd (RF.of (fun x hx => fr2.1 x (by omega)) (fun q hq => fr2.2 q (by omega)))
  · show jT _ _ 15 _ _ _ _
    refine tl_iconst rfl ?_
    refine tl_iret rfl ?_
    -- leaf 1 at 16
    refine ⟨_, rfl, ?_⟩
    rw [Dbest, Abe, if_neg (by omega), if_neg (by omega)]
    exact PRF.rd RF.rfl'
set_option maxRecDepth 20000 in
set_option maxHeartbeats 1000000 in
theorem k_cost_lp (l : Launch) {o a b : Nat} (hO : OrS o a b) (h g : jH) (n : Nat) (hg : OG h o a b g n) (hv : OGv g n) (P : Option Value → jH → Prop) (hP : P (some (.int (jI (sm (cstF g) n)))) h) : ∀ (m : Nat) (k : Nat), n - k < m → (k ≤ n) → jT l 58 4 [some (.ref 377), some (.ref o), some (.int (jI (sm (cstF g) k))), some (.int (jI ((k : Int))))] [] h P := by
  have n64 := hv.1
  intro m
  induction m with
  | zero => intro k hk; omega
  | succ m ih =>
    intro k hk hi
    have cb := cst_b (g := g) k
    have es : sm (cstF g) (k + 1) = sm (cstF g) k + cstF g k := rfl
    refine tl_iload_n rfl rfl ?_
    refine tl_aload_n rfl rfl ?_
    refine tl_geti (c := 3) (k9 := 2) rfl hO.1 rfl ?_
    rw [hg.1]
    refine tl_icmp_ge (tgt := 65) rfl rfl ⟨by omega, by omega⟩ ⟨by omega, by omega⟩ (fun c1 => ?_) (fun c1 => ?_)
    · skip
      refine tl_iload_n rfl rfl ?_
      refine tl_iret rfl ?_
      -- leaf 0 at 66
      have e : k = n := by omega
      rw [e]
      exact hP
    · show jT _ _ 12 _ _ _ _
      have gb := hv.2 k (by omega)
      have gb1 := gb.1
      have gb2 := gb.2.1
      have gb3 := gb.2.2
      show jT _ _ 12 _ _ _ _
      refine tl_aload_n rfl rfl ?_
      refine tl_iload_n rfl rfl ?_
      refine tl_v1i (c9 := 3) (k_plA l hO h g n hg hv k (by omega)) rfl rfl rfl hO.1 rfl (Nat.le_of_ble_eq_true rfl) (fun z1 h1 p1 => ?_)
      obtain ⟨q1, rfl⟩ := p1
      have q1 := q1.symm
      subst q1
      refine tl_iconst rfl ?_
      refine tl_icmp_ne (tgt := 27) rfl rfl ⟨by omega, by omega⟩ ⟨by omega, by omega⟩ (fun c2 => ?_) (fun c2 => ?_)
      · skip
        refine tl_iload_n rfl rfl ?_
        refine tl_aload_n rfl rfl ?_
        show jT _ _ 29 _ _ _ _
        refine tl_iload_n rfl rfl ?_
        refine tl_v1i (c9 := 3) (k_vaA l hO h g n hg hv k (by omega)) rfl rfl rfl hO.1 rfl (Nat.le_of_ble_eq_true rfl) (fun z2 h2 p2 => ?_)
        obtain ⟨q2, rfl⟩ := p2
        have q2 := q2.symm
        subst q2
        refine tl_if_ne (tgt := 40) rfl rfl ⟨by omega, by omega⟩ (fun c3 => ?_) (fun c3 => ?_)
        · skip
          refine tl_iconst rfl ?_
          refine tl_iadd rfl ?_
          refine tl_istore_n rfl (Nat.le_of_ble_eq_true rfl) rfl ?_
          refine tl_iload_n rfl rfl ?_
          show jT _ _ 44 _ _ _ _
          refine tl_aload_n rfl rfl ?_
          refine tl_iload_n rfl rfl ?_
          refine tl_v1i (c9 := 3) (k_goesOn l hO h g n hg hv k (by omega)) rfl rfl rfl hO.1 rfl (Nat.le_of_ble_eq_true rfl) (fun z3 h3 p3 => ?_)
          obtain ⟨q3, rfl⟩ := p3
          have q3 := q3.symm
          subst q3
          have b3 := zb_b (gon g k)
          refine tl_if_eq (tgt := 56) rfl rfl ⟨by omega, by omega⟩ (fun c4 => ?_) (fun c4 => ?_)
          · skip
            have e2 := zb0 c4
            refine tl_iconst rfl ?_
            refine tl_iadd rfl ?_
            refine tl_istore_n rfl (Nat.le_of_ble_eq_true rfl) rfl ?_
            show jT _ _ 59 _ _ _ _
            refine tl_iinc rfl rfl rfl ?_
            refine tl_goto (tgt := 4) rfl rfl ?_
            show jT _ _ 4 _ _ _ _
            -- leaf 1 at 4
            refine jT.loc ?_ (ih (k + 1) (by omega) (by omega))
            first
              | (have ec : cstF g k = 2 := cst_1 (by omega); rw [es, ec]; rfl)
              | (have ec : cstF g k = 0 + 0 := cst_2 (by omega) 0 0 (by first | rw [if_pos (by omega)] | rw [if_neg (by omega)]) (by rw [zb_t e2]; rfl); rw [es, ec, ← Int.add_assoc]; rfl)
              | (have ec : cstF g k = 0 + 3 := cst_2 (by omega) 0 3 (by first | rw [if_pos (by omega)] | rw [if_neg (by omega)]) (by rw [zb_f e2]; rfl); rw [es, ec, ← Int.add_assoc]; rfl)
              | (have ec : cstF g k = 1 + 0 := cst_2 (by omega) 1 0 (by first | rw [if_pos (by omega)] | rw [if_neg (by omega)]) (by rw [zb_t e2]; rfl); rw [es, ec, ← Int.add_assoc]; rfl)
              | (have ec : cstF g k = 1 + 3 := cst_2 (by omega) 1 3 (by first | rw [if_pos (by omega)] | rw [if_neg (by omega)]) (by rw [zb_f e2]; rfl); rw [es, ec, ← Int.add_assoc]; rfl)
          · show jT _ _ 52 _ _ _ _
            have e2 := zb1' c4
            refine tl_iconst rfl ?_
            refine tl_goto (tgt := 57) rfl rfl ?_
            refine tl_iadd rfl ?_
            refine tl_istore_n rfl (Nat.le_of_ble_eq_true rfl) rfl ?_
            refine tl_iinc rfl rfl rfl ?_
            show jT _ _ 62 _ _ _ _
            refine tl_goto (tgt := 4) rfl rfl ?_
            show jT _ _ 4 _ _ _ _
            -- leaf 2 at 4
            refine jT.loc ?_ (ih (k + 1) (by omega) (by omega))
            first
              | (have ec : cstF g k = 2 := cst_1 (by omega); rw [es, ec]; rfl)
              | (have ec : cstF g k = 0 + 0 := cst_2 (by omega) 0 0 (by first | rw [if_pos (by omega)] | rw [if_neg (by omega)]) (by rw [zb_t e2]; rfl); rw [es, ec, ← Int.add_assoc]; rfl)
              | (have ec : cstF g k = 0 + 3 := cst_2 (by omega) 0 3 (by first | rw [if_pos (by omega)] | rw [if_neg (by omega)]) (by rw [zb_f e2]; rfl); rw [es, ec, ← Int.add_assoc]; rfl)
              | (have ec : cstF g k = 1 + 0 := cst_2 (by omega) 1 0 (by first | rw [if_pos (by omega)] | rw [if_neg (by omega)]) (by rw [zb_t e2]; rfl); rw [es, ec, ← Int.add_assoc]; rfl)
              | (have ec : cstF g k = 1 + 3 := cst_2 (by omega) 1 3 (by first | rw [if_pos (by omega)] | rw [if_neg (by omega)]) (by rw [zb_f e2]; rfl); rw [es, ec, ← Int.add_assoc]; rfl)
        · show jT _ _ 36 _ _ _ _
          refine tl_iconst rfl ?_
          refine tl_goto (tgt := 41) rfl rfl ?_
          refine tl_iadd rfl ?_
          refine tl_istore_n rfl (Nat.le_of_ble_eq_true rfl) rfl ?_
          refine tl_iload_n rfl rfl ?_
          refine tl_aload_n rfl rfl ?_
          show jT _ _ 45 _ _ _ _
          refine tl_iload_n rfl rfl ?_
          refine tl_v1i (c9 := 3) (k_goesOn l hO h g n hg hv k (by omega)) rfl rfl rfl hO.1 rfl (Nat.le_of_ble_eq_true rfl) (fun z3 h3 p3 => ?_)
          obtain ⟨q3, rfl⟩ := p3
          have q3 := q3.symm
          subst q3
          have b3 := zb_b (gon g k)
          refine tl_if_eq (tgt := 56) rfl rfl ⟨by omega, by omega⟩ (fun c5 => ?_) (fun c5 => ?_)
          · skip
            have e2 := zb0 c5
            refine tl_iconst rfl ?_
            refine tl_iadd rfl ?_
            refine tl_istore_n rfl (Nat.le_of_ble_eq_true rfl) rfl ?_
            refine tl_iinc rfl rfl rfl ?_
            show jT _ _ 62 _ _ _ _
            refine tl_goto (tgt := 4) rfl rfl ?_
            show jT _ _ 4 _ _ _ _
            -- leaf 3 at 4
            refine jT.loc ?_ (ih (k + 1) (by omega) (by omega))
            first
              | (have ec : cstF g k = 2 := cst_1 (by omega); rw [es, ec]; rfl)
              | (have ec : cstF g k = 0 + 0 := cst_2 (by omega) 0 0 (by first | rw [if_pos (by omega)] | rw [if_neg (by omega)]) (by rw [zb_t e2]; rfl); rw [es, ec, ← Int.add_assoc]; rfl)
              | (have ec : cstF g k = 0 + 3 := cst_2 (by omega) 0 3 (by first | rw [if_pos (by omega)] | rw [if_neg (by omega)]) (by rw [zb_f e2]; rfl); rw [es, ec, ← Int.add_assoc]; rfl)
              | (have ec : cstF g k = 1 + 0 := cst_2 (by omega) 1 0 (by first | rw [if_pos (by omega)] | rw [if_neg (by omega)]) (by rw [zb_t e2]; rfl); rw [es, ec, ← Int.add_assoc]; rfl)
              | (have ec : cstF g k = 1 + 3 := cst_2 (by omega) 1 3 (by first | rw [if_pos (by omega)] | rw [if_neg (by omega)]) (by rw [zb_f e2]; rfl); rw [es, ec, ← Int.add_assoc]; rfl)
          · show jT _ _ 52 _ _ _ _
            have e2 := zb1' c5
            refine tl_iconst rfl ?_
            refine tl_goto (tgt := 57) rfl rfl ?_
            refine tl_iadd rfl ?_
            refine tl_istore_n rfl (Nat.le_of_ble_eq_true rfl) rfl ?_
            refine tl_iinc rfl rfl rfl ?_
            refine tl_goto (tgt := 4) rfl rfl ?_
            show jT _ _ 4 _ _ _ _
            -- leaf 4 at 4
            refine jT.loc ?_ (ih (k + 1) (by omega) (by omega))
            first
              | (have ec : cstF g k = 2 := cst_1 (by omega); rw [es, ec]; rfl)
              | (have ec : cstF g k = 0 + 0 := cst_2 (by omega) 0 0 (by first | rw [if_pos (by omega)] | rw [if_neg (by omega)]) (by rw [zb_t e2]; rfl); rw [es, ec, ← Int.add_assoc]; rfl)
              | (have ec : cstF g k = 0 + 3 := cst_2 (by omega) 0 3 (by first | rw [if_pos (by omega)] | rw [if_neg (by omega)]) (by rw [zb_f e2]; rfl); rw [es, ec, ← Int.add_assoc]; rfl)
              | (have ec : cstF g k = 1 + 0 := cst_2 (by omega) 1 0 (by first | rw [if_pos (by omega)] | rw [if_neg (by omega)]) (by rw [zb_t e2]; rfl); rw [es, ec, ← Int.add_assoc]; rfl)
              | (have ec : cstF g k = 1 + 3 := cst_2 (by omega) 1 3 (by first | rw [if_pos (by omega)] | rw [if_neg (by omega)]) (by rw [zb_f e2]; rfl); rw [es, ec, ← Int.add_assoc]; rfl)
      · show jT _ _ 21 _ _ _ _
        show jT _ _ 21 _ _ _ _
        refine tl_iinc rfl rfl rfl ?_
        refine tl_goto (tgt := 59) rfl rfl ?_
        refine tl_iinc rfl rfl rfl ?_
        refine tl_goto (tgt := 4) rfl rfl ?_
        show jT _ _ 4 _ _ _ _
        -- leaf 5 at 4
        refine jT.loc ?_ (ih (k + 1) (by omega) (by omega))
        first
          | (have ec : cstF g k = 2 := cst_1 (by omega); rw [es, ec]; rfl)
          | (have ec : cstF g k = 0 + 0 := cst_2 (by omega) 0 0 (by first | rw [if_pos (by omega)] | rw [if_neg (by omega)]) (by rw [zb_t e2]; rfl); rw [es, ec, ← Int.add_assoc]; rfl)
          | (have ec : cstF g k = 0 + 3 := cst_2 (by omega) 0 3 (by first | rw [if_pos (by omega)] | rw [if_neg (by omega)]) (by rw [zb_f e2]; rfl); rw [es, ec, ← Int.add_assoc]; rfl)
          | (have ec : cstF g k = 1 + 0 := cst_2 (by omega) 1 0 (by first | rw [if_pos (by omega)] | rw [if_neg (by omega)]) (by rw [zb_t e2]; rfl); rw [es, ec, ← Int.add_assoc]; rfl)
          | (have ec : cstF g k = 1 + 3 := cst_2 (by omega) 1 3 (by first | rw [if_pos (by omega)] | rw [if_neg (by omega)]) (by rw [zb_f e2]; rfl); rw [es, ec, ← Int.add_assoc]; rfl)
set_option maxRecDepth 20000 in
set_option maxHeartbeats 1000000 in
theorem k_costOf (l : Launch) {o a b : Nat} (hO : OrS o a b) (h g : jH) (n : Nat) (hg : OG h o a b g n) (hv : OGv g n) : cI l 58 [.ref 377, .ref o] h (fun z h' => h' = h ∧ z = sm (cstF g) n) := by
  refine cI.of rfl rfl ?_
  refine tl_iconst rfl ?_
  refine tl_istore_n rfl (Nat.le_of_ble_eq_true rfl) rfl ?_
  refine tl_iconst rfl ?_
  refine tl_istore_n rfl (Nat.le_of_ble_eq_true rfl) rfl ?_
  show jT _ _ 4 _ _ _ _
  -- leaf 0 at 4
  exact k_cost_lp l hO h g n hg hv _ ⟨_, rfl, rfl, rfl⟩ _ 0 (Nat.lt_succ_self _) (Nat.zero_le _)
set_option maxRecDepth 20000 in
set_option maxHeartbeats 1000000 in
theorem r_cost_lp (l : Launch) (h g : jH) (n : Nat) (hg : OGR h g n) (hv : OGv g n) (P : Option Value → jH → Prop) (hP : P (some (.int (jI (sm (cstF g) n)))) h) : ∀ (m : Nat) (k : Nat), n - k < m → (k ≤ n) → jT l 344 14 [some (.ref 388), some (.int (jI (sm (cstF g) k))), some (.int (jI ((k : Int))))] [] h P := by
  have n64 := hv.1
  intro m
  induction m with
  | zero => intro k hk; omega
  | succ m ih =>
    intro k hk hi
    have cb := cst_b (g := g) k
    have es : sm (cstF g) (k + 1) = sm (cstF g) k + cstF g k := rfl
    refine tl_iload_n rfl rfl ?_
    refine tl_aload_n rfl rfl ?_
    refine tl_geti (c := 12) (k9 := 25) rfl rfl rfl ?_
    rw [hg.1]
    refine tl_icmp_ge (tgt := 73) rfl rfl ⟨by omega, by omega⟩ ⟨by omega, by omega⟩ (fun c1 => ?_) (fun c1 => ?_)
    · skip
      refine tl_iload_n rfl rfl ?_
      refine tl_iret rfl ?_
      -- leaf 0 at 74
      have e : k = n := by omega
      rw [e]
      exact hP
    · show jT _ _ 22 _ _ _ _
      have gb := hv.2 k (by omega)
      have gb1 := gb.1
      have gb2 := gb.2.1
      have gb3 := gb.2.2
      show jT _ _ 22 _ _ _ _
      refine tl_iload_n rfl rfl ?_
      refine tl_aload_n rfl rfl ?_
      refine tl_getr (c := 12) (k9 := 23) (b := 403) rfl rfl rfl rfl ?_
      refine tl_iload_n rfl rfl ?_
      refine tl_iald (n := 64) rfl rfl rfl (by omega) (by omega) ?_
      rw [Int.toNat_natCast, (hg.2 k (by omega)).1]
      refine tl_iconst rfl ?_
      refine tl_icmp_ne (tgt := 37) rfl rfl ⟨by omega, by omega⟩ ⟨by omega, by omega⟩ (fun c2 => ?_) (fun c2 => ?_)
      · skip
        show jT _ _ 37 _ _ _ _
        refine tl_aload_n rfl rfl ?_
        refine tl_getr (c := 12) (k9 := 24) (b := 404) rfl rfl rfl rfl ?_
        refine tl_iload_n rfl rfl ?_
        refine tl_iald (n := 64) rfl rfl rfl (by omega) (by omega) ?_
        rw [Int.toNat_natCast, (hg.2 k (by omega)).2]
        refine tl_if_ne (tgt := 50) rfl rfl ⟨by omega, by omega⟩ (fun c3 => ?_) (fun c3 => ?_)
        · skip
          refine tl_iconst rfl ?_
          refine tl_aload_n rfl rfl ?_
          show jT _ _ 52 _ _ _ _
          refine tl_iload_n rfl rfl ?_
          refine tl_v1i (c9 := 12) (r_goesOn l h g n hg hv k (by omega)) rfl rfl rfl rfl rfl (Nat.le_of_ble_eq_true rfl) (fun z3 h3 p3 => ?_)
          obtain ⟨q3, rfl⟩ := p3
          have q3 := q3.symm
          subst q3
          have b3 := zb_b (gon g k)
          refine tl_if_eq (tgt := 63) rfl rfl ⟨by omega, by omega⟩ (fun c4 => ?_) (fun c4 => ?_)
          · skip
            have e2 := zb0 c4
            refine tl_iconst rfl ?_
            refine tl_iadd rfl ?_
            refine tl_iadd rfl ?_
            refine tl_istore_n rfl (Nat.le_of_ble_eq_true rfl) rfl ?_
            show jT _ _ 67 _ _ _ _
            refine tl_iinc rfl rfl rfl ?_
            refine tl_goto (tgt := 14) rfl rfl ?_
            show jT _ _ 14 _ _ _ _
            -- leaf 1 at 14
            refine jT.loc ?_ (ih (k + 1) (by omega) (by omega))
            first
              | (have ec : cstF g k = 2 := cst_1 (by omega); rw [es, ec]; rfl)
              | (have ec : cstF g k = 0 + 0 := cst_2 (by omega) 0 0 (by first | rw [if_pos (by omega)] | rw [if_neg (by omega)]) (by rw [zb_t e2]; rfl); rw [es, ec]; rfl)
              | (have ec : cstF g k = 0 + 3 := cst_2 (by omega) 0 3 (by first | rw [if_pos (by omega)] | rw [if_neg (by omega)]) (by rw [zb_f e2]; rfl); rw [es, ec]; rfl)
              | (have ec : cstF g k = 1 + 0 := cst_2 (by omega) 1 0 (by first | rw [if_pos (by omega)] | rw [if_neg (by omega)]) (by rw [zb_t e2]; rfl); rw [es, ec]; rfl)
              | (have ec : cstF g k = 1 + 3 := cst_2 (by omega) 1 3 (by first | rw [if_pos (by omega)] | rw [if_neg (by omega)]) (by rw [zb_f e2]; rfl); rw [es, ec]; rfl)
          · show jT _ _ 59 _ _ _ _
            have e2 := zb1' c4
            refine tl_iconst rfl ?_
            refine tl_goto (tgt := 64) rfl rfl ?_
            refine tl_iadd rfl ?_
            refine tl_iadd rfl ?_
            refine tl_istore_n rfl (Nat.le_of_ble_eq_true rfl) rfl ?_
            show jT _ _ 67 _ _ _ _
            refine tl_iinc rfl rfl rfl ?_
            refine tl_goto (tgt := 14) rfl rfl ?_
            show jT _ _ 14 _ _ _ _
            -- leaf 2 at 14
            refine jT.loc ?_ (ih (k + 1) (by omega) (by omega))
            first
              | (have ec : cstF g k = 2 := cst_1 (by omega); rw [es, ec]; rfl)
              | (have ec : cstF g k = 0 + 0 := cst_2 (by omega) 0 0 (by first | rw [if_pos (by omega)] | rw [if_neg (by omega)]) (by rw [zb_t e2]; rfl); rw [es, ec]; rfl)
              | (have ec : cstF g k = 0 + 3 := cst_2 (by omega) 0 3 (by first | rw [if_pos (by omega)] | rw [if_neg (by omega)]) (by rw [zb_f e2]; rfl); rw [es, ec]; rfl)
              | (have ec : cstF g k = 1 + 0 := cst_2 (by omega) 1 0 (by first | rw [if_pos (by omega)] | rw [if_neg (by omega)]) (by rw [zb_t e2]; rfl); rw [es, ec]; rfl)
              | (have ec : cstF g k = 1 + 3 := cst_2 (by omega) 1 3 (by first | rw [if_pos (by omega)] | rw [if_neg (by omega)]) (by rw [zb_f e2]; rfl); rw [es, ec]; rfl)
        · show jT _ _ 46 _ _ _ _
          refine tl_iconst rfl ?_
          refine tl_goto (tgt := 51) rfl rfl ?_
          refine tl_aload_n rfl rfl ?_
          refine tl_iload_n rfl rfl ?_
          refine tl_v1i (c9 := 12) (r_goesOn l h g n hg hv k (by omega)) rfl rfl rfl rfl rfl (Nat.le_of_ble_eq_true rfl) (fun z3 h3 p3 => ?_)
          obtain ⟨q3, rfl⟩ := p3
          have q3 := q3.symm
          subst q3
          have b3 := zb_b (gon g k)
          show jT _ _ 56 _ _ _ _
          refine tl_if_eq (tgt := 63) rfl rfl ⟨by omega, by omega⟩ (fun c5 => ?_) (fun c5 => ?_)
          · skip
            have e2 := zb0 c5
            refine tl_iconst rfl ?_
            refine tl_iadd rfl ?_
            refine tl_iadd rfl ?_
            refine tl_istore_n rfl (Nat.le_of_ble_eq_true rfl) rfl ?_
            refine tl_iinc rfl rfl rfl ?_
            refine tl_goto (tgt := 14) rfl rfl ?_
            show jT _ _ 14 _ _ _ _
            -- leaf 3 at 14
            refine jT.loc ?_ (ih (k + 1) (by omega) (by omega))
            first
              | (have ec : cstF g k = 2 := cst_1 (by omega); rw [es, ec]; rfl)
              | (have ec : cstF g k = 0 + 0 := cst_2 (by omega) 0 0 (by first | rw [if_pos (by omega)] | rw [if_neg (by omega)]) (by rw [zb_t e2]; rfl); rw [es, ec]; rfl)
              | (have ec : cstF g k = 0 + 3 := cst_2 (by omega) 0 3 (by first | rw [if_pos (by omega)] | rw [if_neg (by omega)]) (by rw [zb_f e2]; rfl); rw [es, ec]; rfl)
              | (have ec : cstF g k = 1 + 0 := cst_2 (by omega) 1 0 (by first | rw [if_pos (by omega)] | rw [if_neg (by omega)]) (by rw [zb_t e2]; rfl); rw [es, ec]; rfl)
              | (have ec : cstF g k = 1 + 3 := cst_2 (by omega) 1 3 (by first | rw [if_pos (by omega)] | rw [if_neg (by omega)]) (by rw [zb_f e2]; rfl); rw [es, ec]; rfl)
          · show jT _ _ 59 _ _ _ _
            have e2 := zb1' c5
            show jT _ _ 59 _ _ _ _
            refine tl_iconst rfl ?_
            refine tl_goto (tgt := 64) rfl rfl ?_
            refine tl_iadd rfl ?_
            refine tl_iadd rfl ?_
            refine tl_istore_n rfl (Nat.le_of_ble_eq_true rfl) rfl ?_
            refine tl_iinc rfl rfl rfl ?_
            refine tl_goto (tgt := 14) rfl rfl ?_
            show jT _ _ 14 _ _ _ _
            -- leaf 4 at 14
            refine jT.loc ?_ (ih (k + 1) (by omega) (by omega))
            first
              | (have ec : cstF g k = 2 := cst_1 (by omega); rw [es, ec]; rfl)
              | (have ec : cstF g k = 0 + 0 := cst_2 (by omega) 0 0 (by first | rw [if_pos (by omega)] | rw [if_neg (by omega)]) (by rw [zb_t e2]; rfl); rw [es, ec]; rfl)
              | (have ec : cstF g k = 0 + 3 := cst_2 (by omega) 0 3 (by first | rw [if_pos (by omega)] | rw [if_neg (by omega)]) (by rw [zb_f e2]; rfl); rw [es, ec]; rfl)
              | (have ec : cstF g k = 1 + 0 := cst_2 (by omega) 1 0 (by first | rw [if_pos (by omega)] | rw [if_neg (by omega)]) (by rw [zb_t e2]; rfl); rw [es, ec]; rfl)
              | (have ec : cstF g k = 1 + 3 := cst_2 (by omega) 1 3 (by first | rw [if_pos (by omega)] | rw [if_neg (by omega)]) (by rw [zb_f e2]; rfl); rw [es, ec]; rfl)
      · show jT _ _ 33 _ _ _ _
        show jT _ _ 33 _ _ _ _
        refine tl_iconst rfl ?_
        refine tl_goto (tgt := 65) rfl rfl ?_
        refine tl_iadd rfl ?_
        refine tl_istore_n rfl (Nat.le_of_ble_eq_true rfl) rfl ?_
        refine tl_iinc rfl rfl rfl ?_
        refine tl_goto (tgt := 14) rfl rfl ?_
        show jT _ _ 14 _ _ _ _
        -- leaf 5 at 14
        refine jT.loc ?_ (ih (k + 1) (by omega) (by omega))
        first
          | (have ec : cstF g k = 2 := cst_1 (by omega); rw [es, ec]; rfl)
          | (have ec : cstF g k = 0 + 0 := cst_2 (by omega) 0 0 (by first | rw [if_pos (by omega)] | rw [if_neg (by omega)]) (by rw [zb_t e2]; rfl); rw [es, ec]; rfl)
          | (have ec : cstF g k = 0 + 3 := cst_2 (by omega) 0 3 (by first | rw [if_pos (by omega)] | rw [if_neg (by omega)]) (by rw [zb_f e2]; rfl); rw [es, ec]; rfl)
          | (have ec : cstF g k = 1 + 0 := cst_2 (by omega) 1 0 (by first | rw [if_pos (by omega)] | rw [if_neg (by omega)]) (by rw [zb_t e2]; rfl); rw [es, ec]; rfl)
          | (have ec : cstF g k = 1 + 3 := cst_2 (by omega) 1 3 (by first | rw [if_pos (by omega)] | rw [if_neg (by omega)]) (by rw [zb_f e2]; rfl); rw [es, ec]; rfl)
set_option maxRecDepth 20000 in
set_option maxHeartbeats 1000000 in
theorem r_costNow (l : Launch) (h : jH) (R : Nat → Int) (hR : h 390 = R) (ok : Rok R) (hT : Rt R) : cI l 344 [.ref 388] h (fun z h' => z = sm (cstF (ogT R (R 0))) (R 70).toNat ∧ RF h h') := by
  have q0 := hT.1
  have k3 := ok.2.2.1
  refine cI.of rfl rfl ?_
  refine tl_aload_n rfl rfl ?_
  refine tl_aload_n rfl rfl ?_
  refine tl_getr (c := 12) (k9 := 3) (b := 390) rfl rfl rfl rfl ?_
  refine tl_iconst rfl ?_
  refine tl_iald (n := 1362) rfl rfl rfl (by omega) (by omega) ?_
  rw [show Int.toNat 0 = 0 from rfl]
  rw [hR]
  refine tl_v1v (c9 := 12) (r_layOrigins l h R hR ok hT (R 0) (by omega) (by omega)) rfl rfl rfl rfl rfl (Nat.le_of_ble_eq_true rfl) (fun h1 p1 => ?_)
  obtain ⟨⟨g1, g2⟩, ⟨g3, g4⟩, fr, fr2⟩ := p1
  show jT _ _ 10 _ _ _ _
  refine tl_iconst rfl ?_
  refine tl_istore_n rfl (Nat.le_of_ble_eq_true rfl) rfl ?_
  refine tl_iconst rfl ?_
  refine tl_istore_n rfl (Nat.le_of_ble_eq_true rfl) rfl ?_
  show jT _ _ 14 _ _ _ _
  -- leaf 0 at 14
  exact r_cost_lp l h1 (ogT R (R 0)) (R 70).toNat ⟨by rw [g3]; omega, fun i hi => g4 i (by omega)⟩ (ogT_v ok (by omega)) _ ⟨_, rfl, rfl, RF.of (fun x hx => fr x (by omega)) (fun q hq => fr2 q (by omega))⟩ _ 0 (Nat.lt_succ_self _) (Nat.zero_le _)
set_option maxRecDepth 20000 in
set_option maxHeartbeats 1000000 in
theorem k_cheapest (l : Launch) (h s : jH) (t w : Int) (hI : IC h s t) (hw9 : jr w) : cI l 178 [.ref 0, .int (jI w)] h (PK h t (Dcheapest s w)) := by
  have w1 := hw9.1
  have w2 := hw9.2
  refine cI.of rfl rfl ?_
  refine tl_iload_n rfl rfl ?_
  refine tl_if_ne (tgt := 16) rfl rfl ⟨by omega, by omega⟩ (fun c1 => ?_) (fun c1 => ?_)
  · skip
    refine tl_iload_n rfl rfl ?_
    refine tl_iconst rfl ?_
    refine tl_icmp_eq (tgt := 23) rfl rfl ⟨by omega, by omega⟩ ⟨by omega, by omega⟩ (fun c2 => ?_) (fun c2 => ?_)
    · skip
      refine tl_aload_n rfl rfl ?_
      show jT _ _ 24 _ _ _ _
      refine tl_v0v (c9 := 11) (k_findAnchors l h (s 390) hI.1 hI.rt hI.te) rfl rfl rfl rfl rfl (Nat.le_of_ble_eq_true rfl) (fun h1 p1 => ?_)
      obtain ⟨g1, g2, g3, g4, fr⟩ := p1
      have kf : KF h h1 := KF.of (fun x hx => fr x (by omega))
      have hR1 := kf.rs hI.1
      have ok := hI.ok
      have k3 := ok.2.2.1
      have hg : OG h1 325 326 327 (ogT (s 390) (s 390 0)) (s 390 70).toNat := ⟨by rw [g3]; omega, fun i hi => g4 i (by omega)⟩
      have hv := ogT_v ok (lst := s 390 0) hI.rt.1.1
      refine tl_aload_n rfl rfl ?_
      refine tl_getr (c := 11) (k9 := 17) (b := 377) rfl rfl rfl rfl ?_
      refine tl_aload_n rfl rfl ?_
      refine tl_getr (c := 11) (k9 := 11) (b := 319) rfl rfl rfl rfl ?_
      refine tl_getr (c := 0) (k9 := 6) (b := 325) rfl rfl rfl rfl ?_
      refine tl_v1i (c9 := 5) (k_costOf l Or325 h1 _ _ hg hv) rfl rfl rfl rfl rfl (Nat.le_of_ble_eq_true rfl) (fun z3 h3 p3 => ?_)
      obtain ⟨q3, rfl⟩ := p3
      have q3 := q3.symm
      subst q3
      show jT _ _ 41 _ _ _ _
      refine tl_iret rfl ?_
      -- leaf 0 at 41
      refine ⟨_, rfl, ?_⟩
      rw [Dcheapest, Ach, if_neg (by omega), if_pos (by omega)]
      exact PK.rd hI kf
    · show jT _ _ 21 _ _ _ _
      refine tl_iconst rfl ?_
      refine tl_iret rfl ?_
      -- leaf 1 at 22
      refine ⟨_, rfl, ?_⟩
      rw [Dcheapest, Ach, if_neg (by omega), if_neg (by omega)]
      exact PK.rd hI KF.rfl'
  · show jT _ _ 4 _ _ _ _
    refine tl_aload_n rfl rfl ?_
    refine tl_getr (c := 11) (k9 := 17) (b := 377) rfl rfl rfl rfl ?_
    refine tl_aload_n rfl rfl ?_
    refine tl_getr (c := 11) (k9 := 0) (b := 1) rfl rfl rfl rfl ?_
    show jT _ _ 12 _ _ _ _
    refine tl_v1i (c9 := 5) (k_leastCost l h (s 390) hI.1) rfl rfl rfl rfl rfl (Nat.le_of_ble_eq_true rfl) (fun z2 h2 p2 => ?_)
    obtain ⟨rfl, f2⟩ := p2
    refine tl_iret rfl ?_
    -- leaf 2 at 15
    refine ⟨_, rfl, ?_⟩
    rw [Dcheapest, Ach, if_pos (by omega)]
    exact PK.rd hI (KF.of (fun x hx => f2 x (by omega)))
set_option maxRecDepth 20000 in
set_option maxHeartbeats 1000000 in
theorem r_cheapest (l : Launch) (g h : jH) (t w : Int) (hI0 : IC g h t) (hw9 : jr w) : cI l 345 [.ref 388, .int (jI w)] h (PRF (Dcheapest (Tz h) w)) := by
  have w1 := hw9.1
  have w2 := hw9.2
  refine cI.of rfl rfl ?_
  refine tl_aload_n rfl rfl ?_
  refine tl_iconst rfl ?_
  refine tl_puti (c := 12) (k9 := 0) rfl rfl rfl rfl ?_
  have hI := hI0.z
  change jT _ _ _ _ _ (Tz h) _
  generalize Tz h = m at hI ⊢
  have nu := hI.nund
  have ok := hI.ok
  have hT := hI.rt
  have q0 := hT.1
  refine tl_iload_n rfl rfl ?_
  refine tl_if_ne (tgt := 16) rfl rfl ⟨by omega, by omega⟩ (fun c1 => ?_) (fun c1 => ?_)
  · skip
    refine tl_iload_n rfl rfl ?_
    show jT _ _ 17 _ _ _ _
    refine tl_iconst rfl ?_
    refine tl_icmp_ne (tgt := 28) rfl rfl ⟨by omega, by omega⟩ ⟨by omega, by omega⟩ (fun c2 => ?_) (fun c2 => ?_)
    · skip
      refine tl_iconst rfl ?_
      refine tl_iret rfl ?_
      -- leaf 0 at 29
      refine ⟨_, rfl, ?_⟩
      rw [Dcheapest, Ach]
      repeat (first | rw [if_pos (by omega)] | rw [if_neg (by omega)])
      first | exact PRF.rd (RF.of (fun x hx => f2 x (by omega) (by omega)) (fun q hq => by rw [f2 388 (by decide) (by decide)])) | exact PRF.rd f3 | exact PRF.rd RF.rfl'
    · show jT _ _ 21 _ _ _ _
      refine tl_aload_n rfl rfl ?_
      refine tl_v0i (c9 := 12) (r_costNow l m (m 390) rfl ok hT) rfl rfl rfl rfl rfl (Nat.le_of_ble_eq_true rfl) (fun z3 h3 p3 => ?_)
      obtain ⟨rfl, f3⟩ := p3
      refine tl_goto (tgt := 29) rfl rfl ?_
      show jT _ _ 29 _ _ _ _
      refine tl_iret rfl ?_
      -- leaf 1 at 29
      refine ⟨_, rfl, ?_⟩
      rw [Dcheapest, Ach]
      repeat (first | rw [if_pos (by omega)] | rw [if_neg (by omega)])
      first | exact PRF.rd (RF.of (fun x hx => f2 x (by omega) (by omega)) (fun q hq => by rw [f2 388 (by decide) (by decide)])) | exact PRF.rd f3 | exact PRF.rd RF.rfl'
  · show jT _ _ 9 _ _ _ _
    refine tl_aload_n rfl rfl ?_
    refine tl_v0i (c9 := 12) (r_leastCost l m (m 390) rfl ok) rfl rfl rfl rfl rfl (Nat.le_of_ble_eq_true rfl) (fun z2 h2 p2 => ?_)
    obtain ⟨rfl, f2⟩ := p2
    refine tl_goto (tgt := 29) rfl rfl ?_
    refine tl_iret rfl ?_
    -- leaf 2 at 29
    refine ⟨_, rfl, ?_⟩
    rw [Dcheapest, Ach]
    repeat (first | rw [if_pos (by omega)] | rw [if_neg (by omega)])
    first | exact PRF.rd (RF.of (fun x hx => f2 x (by omega) (by omega)) (fun q hq => by rw [f2 388 (by decide) (by decide)])) | exact PRF.rd f3 | exact PRF.rd RF.rfl'
