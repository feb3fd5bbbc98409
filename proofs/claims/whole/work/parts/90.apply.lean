/-! apply: pages held -/
def pgk (U : jH) (p : Int) : Nat := fst (fun i => decide ((i : Int) < U 1 0 ∧ U 0 i ≠ p)) 8 0
def pgm (U : jH) (p : Int) : Prop := (pgk U p : Int) = U 1 0
def pgn (fr p : Int) (U : jH) : Int := if (pgk U p : Int) = U 1 0 ∧ U 1 0 ≠ fr then U 1 0 + 1 else U 1 0
def pgs (fr p : Int) (U : jH) : Nat := if (pgk U p : Int) = U 1 0 ∧ U 1 0 = fr then 0 else pgk U p
def pg1 (fr p : Int) (U : jH) : jH := fun r i => if r = 0 then (if i < pgs fr p U ∨ pgn fr p U ≤ (i : Int) then U 0 i else if (i : Int) + 1 < pgn fr p U then U 0 (i + 1) else p) else if r = 1 then (if i = 0 then pgn fr p U else if i = 1 then (if (pgk U p : Int) = U 1 0 then U 1 1 + 1 else U 1 1) else if i = 2 then max (U 1 2) (pgn fr p U) else U 1 i) else U r i
theorem pg1_n {fr p : Int} {U : jH} : pg1 fr p U 1 0 = pgn fr p U := rfl
theorem pg1_l {fr p : Int} {U : jH} : pg1 fr p U 1 1 = if (pgk U p : Int) = U 1 0 then U 1 1 + 1 else U 1 1 := rfl
theorem pg1_m {fr p : Int} {U : jH} : pg1 fr p U 1 2 = max (U 1 2) (pgn fr p U) := rfl
theorem pg1_0 {fr p : Int} {U : jH} {i : Nat} : pg1 fr p U 0 i = if i < pgs fr p U ∨ pgn fr p U ≤ (i : Int) then U 0 i else if (i : Int) + 1 < pgn fr p U then U 0 (i + 1) else p := rfl
def UI (fr : Int) (U : jH) : Prop := (1 ≤ fr ∧ fr ≤ 6) ∧ (0 ≤ U 1 0 ∧ U 1 0 ≤ fr) ∧ (U 1 0 ≤ U 1 2 ∧ U 1 2 ≤ fr) ∧ (∀ i : Nat, (i : Int) < U 1 0 → 0 ≤ U 0 i ∧ U 0 i ≤ 7) ∧ ∀ i j : Nat, i < j → (j : Int) < U 1 0 → U 0 i ≠ U 0 j
/-- where the page is held -/
theorem pgk_s {fr : Int} {U : jH} (u : UI fr U) (p : Int) : (pgk U p : Int) ≤ U 1 0 ∧ (∀ i, i < pgk U p → U 0 i ≠ p) ∧ ((pgk U p : Int) < U 1 0 → U 0 (pgk U p) = p) := by
  obtain ⟨u1, u2, u3, u4, u5⟩ := u
  have s := fst_spec (fun i => decide ((i : Int) < U 1 0 ∧ U 0 i ≠ p)) 8 0
  change 0 ≤ pgk U p ∧ pgk U p ≤ 0 + 8 ∧ (∀ i, 0 ≤ i → i < pgk U p → decide ((i : Int) < U 1 0 ∧ U 0 i ≠ p) = true) ∧ (pgk U p < 0 + 8 → decide (((pgk U p : Nat) : Int) < U 1 0 ∧ U 0 (pgk U p) ≠ p) = false) at s
  obtain ⟨_, s2, s3, s4⟩ := s
  have le : (pgk U p : Int) ≤ U 1 0 := by
    by_cases c : pgk U p = 0
    · omega
    · have := of_decide_eq_true (s3 (pgk U p - 1) (by omega) (by omega)); omega
  refine ⟨le, fun i hi => (of_decide_eq_true (s3 i (by omega) hi)).2, fun h => ?_⟩
  have := of_decide_eq_false (s4 (by omega))
  by_cases c : U 0 (pgk U p) = p
  · exact c
  · exact absurd ⟨h, c⟩ this
theorem pg_c {fr : Int} {U : jH} (u : UI fr U) (p : Int) : ((pgk U p : Int) < U 1 0 ∧ pgn fr p U = U 1 0 ∧ pgs fr p U = pgk U p) ∨ ((pgk U p : Int) = U 1 0 ∧ U 1 0 = fr ∧ pgn fr p U = U 1 0 ∧ pgs fr p U = 0) ∨ ((pgk U p : Int) = U 1 0 ∧ U 1 0 < fr ∧ pgn fr p U = U 1 0 + 1 ∧ pgs fr p U = pgk U p) := by
  have s := (pgk_s u p).1
  have u2 := u.2.1
  unfold pgn pgs
  by_cases c : (pgk U p : Int) = U 1 0
  · by_cases d : U 1 0 = fr
    · rw [if_neg (fun w => w.2 d), if_pos ⟨c, d⟩]; exact Or.inr (Or.inl ⟨c, d, rfl, rfl⟩)
    · rw [if_pos ⟨c, d⟩, if_neg (fun w => d w.2)]; exact Or.inr (Or.inr ⟨c, by omega, rfl, rfl⟩)
  · rw [if_neg (fun w => c w.1), if_neg (fun w => c w.1)]; exact Or.inl ⟨by omega, rfl, rfl⟩
theorem pg_last {fr : Int} {U : jH} (u : UI fr U) (p : Int) : 1 ≤ pgn fr p U ∧ (pgs fr p U : Int) < pgn fr p U ∧ pg1 fr p U 0 (pgn fr p U - 1).toNat = p := by
  have u2 := u.2.1
  have u1 := u.1
  have s := (pgk_s u p).1
  have c := pg_c u p
  refine ⟨by omega, by omega, ?_⟩
  rw [pg1_0, if_neg (by omega), if_neg (by omega)]
/-- each place but the last holds what an earlier one held -/
theorem pg_old {fr : Int} {U : jH} (u : UI fr U) (p : Int) {i : Nat} (hi : (i : Int) + 1 < pgn fr p U) : ∃ j : Nat, (j : Int) < U 1 0 ∧ pg1 fr p U 0 i = U 0 j ∧ U 0 j ≠ p ∧ i ≤ j ∧ j ≤ i + 1 ∧ (i < pgs fr p U → j = i) ∧ (¬ i < pgs fr p U → j = i + 1) := by
  have u2 := u.2.1
  have s := pgk_s u p
  have c := pg_c u p
  rw [pg1_0]
  by_cases d : i < pgs fr p U
  · rw [if_pos (Or.inl d)]
    exact ⟨i, by omega, rfl, s.2.1 i (by omega), by omega, by omega, fun _ => rfl, fun w => absurd d w⟩
  · rw [if_neg (by omega), if_pos hi]
    refine ⟨i + 1, by omega, rfl, ?_, by omega, by omega, fun w => absurd w d, fun _ => rfl⟩
    rcases c with c | c | c
    · intro w
      have e := s.2.2 c.1
      exact u.2.2.2.2 (pgk U p) (i + 1) (by omega) (by omega) (e.trans w.symm)
    · exact s.2.1 (i + 1) (by omega)
    · exact s.2.1 (i + 1) (by omega)
theorem UI.st {fr : Int} {U : jH} (u : UI fr U) {p : Int} (p0 : 0 ≤ p ∧ p ≤ 7) : UI fr (pg1 fr p U) := by
  have c := pg_c u p
  have la := pg_last u p
  obtain ⟨u1, u2, u3, u4, u5⟩ := u
  refine ⟨u1, by rw [pg1_n]; omega, by rw [pg1_n, pg1_m]; omega, fun i hi => ?_, fun i j hij hj => ?_⟩
  · rw [pg1_n] at hi
    by_cases d : (i : Int) + 1 < pgn fr p U
    · obtain ⟨q, q1, q2, _⟩ := pg_old ⟨u1, u2, u3, u4, u5⟩ p d
      rw [q2]; exact u4 q q1
    · rw [show i = (pgn fr p U - 1).toNat by omega, la.2.2]; exact p0
  · rw [pg1_n] at hj
    obtain ⟨q, q1, q2, q3, q4, q5, q6, q7⟩ := pg_old ⟨u1, u2, u3, u4, u5⟩ p (i := i) (by omega)
    by_cases d : (j : Int) + 1 < pgn fr p U
    · obtain ⟨r, r1, r2, r3, r4, r5, r6, r7⟩ := pg_old ⟨u1, u2, u3, u4, u5⟩ p d
      rw [q2, r2]
      exact u5 q r (by by_cases e : i < pgs fr p U <;> by_cases f : j < pgs fr p U <;> omega) r1
    · rw [q2, show j = (pgn fr p U - 1).toNat by omega, la.2.2]; exact q3
/-- the class's cells: when each page was read last -/
def PGK (h U : jH) (t : Int) : Prop := (h 356 11 = U 1 0 ∧ h 356 4 = U 1 1 ∧ h 356 5 = U 1 2) ∧ (∀ q : Nat, q < 8 → (h 361 q = 0 ∧ ∀ i : Nat, (i : Int) < U 1 0 → U 0 i ≠ (q : Int)) ∨ ((0 < h 361 q ∧ h 361 q ≤ t) ∧ ∃ i : Nat, (i : Int) < U 1 0 ∧ U 0 i = (q : Int))) ∧ ∀ i j : Nat, i < j → (j : Int) < U 1 0 → h 361 (U 0 i).toNat < h 361 (U 0 j).toNat
def pgT (g : jH) (fr : Int) (N : Nat) : Nat → jH
  | 0 => fun _ _ => 0
  | i + 1 => if g 0 (i % N) = -1 then pgT g fr N i else pg1 fr (g 0 (i % N) / 8) (pgT g fr N i)
theorem pgT_I {g : jH} {fr : Int} {N : Nat} (f1 : 1 ≤ fr ∧ fr ≤ 6) (hv : OGv g N) (N0 : 0 < N) : ∀ i, UI fr (pgT g fr N i) ∧ 0 ≤ pgT g fr N i 1 1 ∧ pgT g fr N i 1 1 ≤ (i : Int) := by
  intro i
  induction i with
  | zero => exact ⟨⟨f1, ⟨Int.le_refl _, by show (0 : Int) ≤ fr; omega⟩, ⟨Int.le_refl _, by show (0 : Int) ≤ fr; omega⟩, fun i hi => absurd hi (by show ¬ (i : Int) < 0; omega), fun i j _ hj => absurd hj (by show ¬ (j : Int) < 0; omega)⟩, Int.le_refl _, Int.le_refl _⟩
  | succ i ih =>
    rw [pgT]
    split
    · exact ⟨ih.1, ih.2.1, by omega⟩
    · have b := (hv.2 (i % N) (Nat.mod_lt _ N0)).1
      refine ⟨ih.1.st (by omega), ?_, ?_⟩ <;> rw [pg1_l] <;> split <;> omega
theorem pgT_n {g : jH} {fr : Int} {N i : Nat} (h : g 0 (i % N) = -1) : pgT g fr N (i + 1) = pgT g fr N i := by rw [pgT, if_pos h]
theorem pgT_y {g : jH} {fr : Int} {N i : Nat} (h : g 0 (i % N) ≠ -1) : pgT g fr N (i + 1) = pg1 fr (g 0 (i % N) / 8) (pgT g fr N i) := by rw [pgT, if_neg h]
theorem PGK.no {h U : jH} {t : Int} (k : PGK h U t) {q : Nat} (hq : q < 8) (h0 : h 361 q = 0) : ∀ i : Nat, (i : Int) < U 1 0 → U 0 i ≠ (q : Int) := by
  rcases k.2.1 q hq with a | a
  · exact a.2
  · omega
/-- a page is read -/
theorem PGK.st {h h2 U : jH} {t fr : Int} (u : UI fr U) (k : PGK h U t) {p : Nat} (p8 : p < 8) (t0 : 0 ≤ t) (e11 : h2 356 11 = pgn fr p U) (e4 : h2 356 4 = pg1 fr p U 1 1) (e5 : h2 356 5 = pg1 fr p U 1 2) (ep : h2 361 p = t + 1) (eo : ∀ q : Nat, q < 8 → q ≠ p → h2 361 q = if (pgk U p : Int) = U 1 0 ∧ U 1 0 = fr ∧ U 0 0 = (q : Int) then 0 else h 361 q) : PGK h2 (pg1 fr p U) (t + 1) := by
  have c := pg_c u p
  have la := pg_last u p
  have s := pgk_s u p
  obtain ⟨k1, k2, k3⟩ := k
  have key : ∀ i : Nat, (i : Int) + 1 < pgn fr p U → ∃ j : Nat, (j : Int) < U 1 0 ∧ pg1 fr p U 0 i = U 0 j ∧ (i < pgs fr p U → j = i) ∧ (¬ i < pgs fr p U → j = i + 1) ∧ h2 361 (U 0 j).toNat = h 361 (U 0 j).toNat ∧ h 361 (U 0 j).toNat ≤ t ∧ 0 < h 361 (U 0 j).toNat := by
    intro i hi
    obtain ⟨j, j1, j2, j3, j4, j5, j6, j7⟩ := pg_old u p hi
    have b := u.2.2.2.1 j j1
    refine ⟨j, j1, j2, j6, j7, ?_, ?_⟩
    · rw [eo (U 0 j).toNat (by omega) (by omega)]
      by_cases d : (pgk U p : Int) = U 1 0 ∧ U 1 0 = fr ∧ U 0 0 = ((U 0 j).toNat : Int)
      · exfalso
        have : pgs fr p U = 0 := by omega
        have := j7 (by omega)
        exact u.2.2.2.2 0 j (by omega) j1 (by omega)
      · rw [if_neg d]
    · rcases k2 (U 0 j).toNat (by omega) with a | a
      · exact absurd (show U 0 j = ((U 0 j).toNat : Int) by omega) (a.2 j j1)
      · exact ⟨a.1.2, a.1.1⟩
  refine ⟨⟨e11, e4, e5⟩, fun q hq => ?_, fun i j hij hj => ?_⟩
  · by_cases d : q = p
    · subst d
      refine Or.inr ⟨by omega, (pgn fr q U - 1).toNat, by rw [pg1_n]; omega, la.2.2⟩
    · rw [eo q hq d]
      by_cases f : (pgk U p : Int) = U 1 0 ∧ U 1 0 = fr ∧ U 0 0 = (q : Int)
      · rw [if_pos f]
        refine Or.inl ⟨rfl, fun i hi => ?_⟩
        rw [pg1_n] at hi
        by_cases g : (i : Int) + 1 < pgn fr p U
        · obtain ⟨j, j1, j2, j3, j4, _⟩ := key i g
          rw [j2]
          have := j4 (by omega)
          intro w
          exact u.2.2.2.2 0 j (by omega) j1 (by omega)
        · rw [show i = (pgn fr p U - 1).toNat by omega, la.2.2]; omega
      · rw [if_neg f]
        rcases k2 q hq with a | a
        · refine Or.inl ⟨a.1, fun i hi => ?_⟩
          rw [pg1_n] at hi
          by_cases g : (i : Int) + 1 < pgn fr p U
          · obtain ⟨j, j1, j2, _⟩ := key i g
            rw [j2]; exact a.2 j j1
          · rw [show i = (pgn fr p U - 1).toNat by omega, la.2.2]; omega
        · refine Or.inr ⟨by omega, ?_⟩
          obtain ⟨i, i1, i2⟩ := a.2
          have ne : i ≠ pgk U p ∨ (pgk U p : Int) = U 1 0 := by
            by_cases z : (pgk U p : Int) = U 1 0
            · exact Or.inr z
            · left; intro w
              have := s.2.2 (by omega)
              rw [← w] at this; omega
          by_cases g : i < pgs fr p U
          · refine ⟨i, by rw [pg1_n]; omega, ?_⟩
            rw [pg1_0, if_pos (Or.inl g)]; exact i2
          · have i0 : i ≠ pgs fr p U := by
              intro w
              rcases c with c | c | c
              · omega
              · have : i = 0 := by omega
                subst this
                exact f ⟨c.1, c.2.1, i2⟩
              · omega
            refine ⟨i - 1, by rw [pg1_n]; omega, ?_⟩
            rw [pg1_0, if_neg (by omega), if_pos (by omega), show i - 1 + 1 = i by omega]; exact i2
  · rw [pg1_n] at hj
    obtain ⟨a, a1, a2, a3, a4, a5, a6, a7⟩ := key i (by omega)
    rw [a2, a5]
    by_cases g : (j : Int) + 1 < pgn fr p U
    · obtain ⟨b, b1, b2, b3, b4, b5, b6, b7⟩ := key j g
      rw [b2, b5]
      exact k3 a b (by by_cases e : i < pgs fr p U <;> by_cases f : j < pgs fr p U <;> omega) b1
    · rw [show j = (pgn fr p U - 1).toNat by omega, la.2.2, Int.toNat_natCast, ep]; omega
/-- the oldest page -/
theorem PGK.old {h U : jH} {t fr : Int} (u : UI fr U) (k : PGK h U t) (n0 : 0 < U 1 0) {o : Nat} (o8 : o < 8) (op : 0 < h 361 o) (om : ∀ q : Nat, q < 8 → 0 < h 361 q → h 361 o ≤ h 361 q) : U 0 0 = (o : Int) := by
  rcases k.2.1 o o8 with a | ⟨_, i, i1, i2⟩
  · omega
  · by_cases c : i = 0
    · subst c; exact i2
    · have b := u.2.2.2.1 0 (by omega)
      have d := k.2.2 0 i (by omega) i1
      rw [i2, Int.toNat_natCast] at d
      rcases k.2.1 (U 0 0).toNat (by omega) with e | e
      · exact absurd (show U 0 0 = ((U 0 0).toNat : Int) by omega) (e.2 0 (by omega))
      · have := om (U 0 0).toNat (by omega) e.1.1
        omega
set_option maxRecDepth 20000 in
set_option maxHeartbeats 1000000 in
theorem k_go_lp (l : Launch) (h U : jH) (t fr : Int) (u : UI fr U) (k9 : PGK h U t) (t9 : 0 ≤ t ∧ t ≤ 1000) (n0 : 0 < U 1 0) (P : Option Value → jH → Prop) (hP : P none (hs (hs h 361 (U 0 0).toNat 0) 356 11 (U 1 0 - 1))) : ∀ (m : Nat) (i : Nat) (f : Int), 8 - i < m → (i ≤ 8 ∧ ((f = -1 ∧ ∀ q, q < i → h 361 q = 0) ∨ ∃ o : Nat, o < i ∧ f = (o : Int) ∧ 0 < h 361 o ∧ ∀ q, q < i → 0 < h 361 q → h 361 o ≤ h 361 q)) → jT l 24 4 [some (.ref 356), some (.int (jI (f))), some (.int (jI ((i : Int))))] [] h P := by
  have hb : ∀ q, q < 8 → 0 ≤ h 361 q ∧ h 361 q ≤ 1000 := fun q hq => by rcases k9.2.1 q hq with a | a <;> omega
  intro m
  induction m with
  | zero => intro i f hk; omega
  | succ m ih =>
    intro i f hk hi
    obtain ⟨i0, i1⟩ := hi
    have bi : 8 ≤ i ∨ (0 ≤ h 361 i ∧ h 361 i ≤ 1000) := by
      by_cases c : i < 8
      · exact Or.inr (hb i c)
      · exact Or.inl (by omega)
    have fb : f = -1 ∨ (0 ≤ f ∧ f < 8 ∧ 0 ≤ h 361 f.toNat ∧ h 361 f.toNat ≤ 1000) := by
      rcases i1 with a | ⟨o, a, b, _⟩
      · exact Or.inl a.1
      · have := hb o (by omega)
        rw [b, Int.toNat_natCast]; exact Or.inr ⟨by omega, by omega, this.1, this.2⟩
    refine tl_iload_n rfl rfl ?_
    refine tl_aload_n rfl rfl ?_
    refine tl_getr (c := 1) (k9 := 10) (b := 361) rfl rfl rfl rfl ?_
    refine tl_alen (n := 8) rfl (Or.inl rfl) rfl ?_
    refine tl_icmp_ge (tgt := 50) rfl rfl ⟨by omega, by omega⟩ ⟨by omega, by omega⟩ (fun c1 => ?_) (fun c1 => ?_)
    · skip
      refine tl_iload_n rfl rfl ?_
      show jT _ _ 51 _ _ _ _
      refine tl_iconst rfl ?_
      refine tl_icmp_eq (tgt := 72) rfl rfl ⟨by omega, by omega⟩ ⟨by omega, by omega⟩ (fun c2 => ?_) (fun c2 => ?_)
      · skip
        refine tl_ret rfl ?_
        -- leaf 0 at 72
        exfalso
        have b := u.2.2.2.1 0 (by omega)
        rcases i1 with a | ⟨o, a, b, _⟩
        · rcases k9.2.1 (U 0 0).toNat (by omega) with e | e
          · exact absurd (show U 0 0 = ((U 0 0).toNat : Int) by omega) (e.2 0 (by omega))
          · have := a.2 (U 0 0).toNat (by omega); omega
        · omega
      · show jT _ _ 55 _ _ _ _
        have fo : U 0 0 = f := by
          rcases i1 with a | ⟨o, a, b, c, d⟩
          · omega
          · rw [b]; exact k9.old u n0 (by omega) c (fun q hq => d q (by omega))
        have u0 := u.2.2.2.1 0 (by omega)
        refine tl_aload_n rfl rfl ?_
        refine tl_getr (c := 1) (k9 := 10) (b := 361) rfl rfl rfl rfl ?_
        refine tl_iload_n rfl rfl ?_
        refine tl_iconst rfl ?_
        show jT _ _ 61 _ _ _ _
        refine tl_iast (n := 8) rfl rfl rfl (by omega) (by omega) ?_
        refine tl_aload_n rfl rfl ?_
        refine tl_dup rfl rfl ?_
        refine tl_geti (c := 1) (k9 := 11) rfl rfl rfl ?_
        rw [hs_o (by decide), k9.1.1]
        refine tl_iconst rfl ?_
        refine tl_isub rfl ?_
        refine tl_puti (c := 1) (k9 := 11) rfl rfl rfl rfl ?_
        show jT _ _ 72 _ _ _ _
        refine tl_ret rfl ?_
        -- leaf 1 at 72
        rw [← fo]
        exact hP
    · show jT _ _ 13 _ _ _ _
      refine tl_aload_n rfl rfl ?_
      refine tl_getr (c := 1) (k9 := 10) (b := 361) rfl rfl rfl rfl ?_
      refine tl_iload_n rfl rfl ?_
      refine tl_iald (n := 8) rfl rfl rfl (by omega) (by omega) ?_
      rw [Int.toNat_natCast]
      refine tl_if_le (tgt := 44) rfl rfl ⟨by omega, by omega⟩ (fun c3 => ?_) (fun c3 => ?_)
      · skip
        refine tl_iinc rfl rfl rfl ?_
        show jT _ _ 47 _ _ _ _
        refine tl_goto (tgt := 4) rfl rfl ?_
        show jT _ _ 4 _ _ _ _
        -- leaf 2 at 4
        refine ih (i + 1) f (by clear i1; omega) ⟨by clear i1; omega, ?_⟩
        rcases i1 with a | ⟨o, a, b, c, d⟩
        · refine Or.inl ⟨a.1, fun q hq => ?_⟩
          by_cases e : q = i
          · subst e; omega
          · exact a.2 q (by omega)
        · refine Or.inr ⟨o, by omega, b, c, fun q hq hp => ?_⟩
          by_cases e : q = i
          · subst e; omega
          · exact d q (by omega) hp
      · show jT _ _ 22 _ _ _ _
        refine tl_iload_n rfl rfl ?_
        refine tl_iconst rfl ?_
        refine tl_icmp_eq (tgt := 42) rfl rfl ⟨by omega, by omega⟩ ⟨by omega, by omega⟩ (fun c4 => ?_) (fun c4 => ?_)
        · skip
          refine tl_iload_n rfl rfl ?_
          refine tl_istore_n rfl (Nat.le_of_ble_eq_true rfl) rfl ?_
          refine tl_iinc rfl rfl rfl ?_
          show jT _ _ 47 _ _ _ _
          refine tl_goto (tgt := 4) rfl rfl ?_
          show jT _ _ 4 _ _ _ _
          -- leaf 3 at 4
          refine ih (i + 1) (i : Int) (by clear i1; omega) ⟨by clear i1; omega, Or.inr ⟨i, by omega, rfl, by clear i1; omega, fun q hq hp => ?_⟩⟩
          rcases i1 with a | ⟨o, a, b, c, d⟩
          · by_cases e : q = i
            · subst e; omega
            · have := a.2 q (by omega); omega
          · exfalso; omega
        · show jT _ _ 27 _ _ _ _
          refine tl_aload_n rfl rfl ?_
          refine tl_getr (c := 1) (k9 := 10) (b := 361) rfl rfl rfl rfl ?_
          refine tl_iload_n rfl rfl ?_
          refine tl_iald (n := 8) rfl rfl rfl (by omega) (by omega) ?_
          rw [Int.toNat_natCast]
          refine tl_aload_n rfl rfl ?_
          refine tl_getr (c := 1) (k9 := 10) (b := 361) rfl rfl rfl rfl ?_
          show jT _ _ 37 _ _ _ _
          refine tl_iload_n rfl rfl ?_
          refine tl_iald (n := 8) rfl rfl rfl (by omega) (by omega) ?_
          refine tl_icmp_ge (tgt := 44) rfl rfl ⟨by omega, by omega⟩ ⟨by omega, by omega⟩ (fun c5 => ?_) (fun c5 => ?_)
          · skip
            refine tl_iinc rfl rfl rfl ?_
            refine tl_goto (tgt := 4) rfl rfl ?_
            show jT _ _ 4 _ _ _ _
            -- leaf 4 at 4
            refine ih (i + 1) f (by clear i1; omega) ⟨by clear i1; omega, ?_⟩
            rcases i1 with a | ⟨o, a, b, c, d⟩
            · exfalso; omega
            · have eo : h 361 f.toNat = h 361 o := by rw [b, Int.toNat_natCast]
              refine Or.inr ⟨o, by omega, b, c, fun q hq hp => ?_⟩
              by_cases e : q = i
              · subst e; omega
              · exact d q (by omega) hp
          · show jT _ _ 42 _ _ _ _
            refine tl_iload_n rfl rfl ?_
            refine tl_istore_n rfl (Nat.le_of_ble_eq_true rfl) rfl ?_
            show jT _ _ 44 _ _ _ _
            refine tl_iinc rfl rfl rfl ?_
            refine tl_goto (tgt := 4) rfl rfl ?_
            show jT _ _ 4 _ _ _ _
            -- leaf 5 at 4
            refine ih (i + 1) (i : Int) (by clear i1; omega) ⟨by clear i1; omega, Or.inr ⟨i, by omega, rfl, by clear i1; omega, fun q hq hp => ?_⟩⟩
            rcases i1 with a | ⟨o, a, b, c, d⟩
            · exfalso; omega
            · have eo : h 361 f.toNat = h 361 o := by rw [b, Int.toNat_natCast]
              by_cases e : q = i
              · subst e; omega
              · have := d q (by omega) hp; omega
set_option maxRecDepth 20000 in
set_option maxHeartbeats 1000000 in
theorem k_giveUp (l : Launch) (h U : jH) (t fr : Int) (u : UI fr U) (k9 : PGK h U t) (t9 : 0 ≤ t ∧ t ≤ 1000) (n0 : 0 < U 1 0) : cV l 24 [.ref 356] h (fun h' => h' = hs (hs h 361 (U 0 0).toNat 0) 356 11 (U 1 0 - 1)) := by
  refine cV.of rfl rfl ?_
  refine tl_iconst rfl ?_
  refine tl_istore_n rfl (Nat.le_of_ble_eq_true rfl) rfl ?_
  refine tl_iconst rfl ?_
  refine tl_istore_n rfl (Nat.le_of_ble_eq_true rfl) rfl ?_
  show jT _ _ 4 _ _ _ _
  -- leaf 0 at 4
  exact k_go_lp l h U t fr u k9 t9 n0 _ ⟨rfl, rfl⟩ _ 0 (-1) (Nat.lt_succ_self _) ⟨Nat.zero_le _, Or.inl ⟨rfl, fun q hq => absurd hq (by omega)⟩⟩
set_option maxRecDepth 20000 in
set_option maxHeartbeats 1000000 in
theorem k_readPage (l : Launch) (h U : jH) (t fr : Int) (u : UI fr U) (k9 : PGK h U t) (t9 : 0 ≤ t ∧ t ≤ 1000) (p : Nat) (p8 : p < 8) (lb : 0 ≤ U 1 1 ∧ U 1 1 ≤ 1000) : cV l 23 [.ref 356, .int (jI (p : Int)), .int (jI fr), .int (jI (t + 1))] h (fun h' => PGK h' (pg1 fr p U) (t + 1) ∧ (∀ x, x ≠ 356 → x ≠ 361 → h' x = h x) ∧ ∀ q, q < 4 → h' 356 q = h 356 q) := by
  have s9 := pgk_s u (p : Int)
  have c9 := pg_c u (p : Int)
  have u1 := u.1
  have u2 := u.2.1
  have u3 := u.2.2.1
  have hb : 0 ≤ h 361 p ∧ h 361 p ≤ 1000 := by rcases k9.2.1 p p8 with a | a <;> omega
  have k11 := k9.1.1
  have k14 := k9.1.2.1
  have k15 := k9.1.2.2
  refine cV.of rfl rfl ?_
  refine tl_iload_n rfl rfl ?_
  refine tl_if_lt (tgt := 13) rfl rfl ⟨by omega, by omega⟩ (fun c1 => ?_) (fun c1 => ?_)
  · skip
    exfalso; omega
  · show jT _ _ 4 _ _ _ _
    refine tl_iload_n rfl rfl ?_
    refine tl_aload_n rfl rfl ?_
    refine tl_getr (c := 1) (k9 := 10) (b := 361) rfl rfl rfl rfl ?_
    refine tl_alen (n := 8) rfl (Or.inl rfl) rfl ?_
    show jT _ _ 10 _ _ _ _
    refine tl_icmp_lt (tgt := 14) rfl rfl ⟨by omega, by omega⟩ ⟨by omega, by omega⟩ (fun c2 => ?_) (fun c2 => ?_)
    · skip
      refine tl_aload_n rfl rfl ?_
      refine tl_getr (c := 1) (k9 := 10) (b := 361) rfl rfl rfl rfl ?_
      refine tl_iload_n rfl rfl ?_
      refine tl_iald (n := 8) rfl rfl rfl (by omega) (by omega) ?_
      rw [Int.toNat_natCast]
      refine tl_if_ne (tgt := 70) rfl rfl ⟨by omega, by omega⟩ (fun c3 => ?_) (fun c3 => ?_)
      · skip
        refine tl_aload_n rfl rfl ?_
        show jT _ _ 71 _ _ _ _
        refine tl_getr (c := 1) (k9 := 10) (b := 361) rfl rfl rfl rfl ?_
        refine tl_iload_n rfl rfl ?_
        refine tl_iload_n rfl rfl ?_
        refine tl_iast (n := 8) rfl rfl rfl (by omega) (by omega) ?_
        rw [Int.toNat_natCast]
        refine tl_ret rfl ?_
        -- leaf 0 at 77
        -- held
        have ht : (pgk U p : Int) < U 1 0 := by
          rcases k9.2.1 p p8 with a | ⟨_, i, i1, i2⟩
          · omega
          · by_cases c : (pgk U p : Int) = U 1 0
            · exact absurd i2 (s9.2.1 i (by omega))
            · omega
        refine ⟨rfl, k9.st u p8 t9.1 ?_ ?_ ?_ hs_s (fun q hq hqp => ?_), fun x x1 x2 => hs_O x2, fun q hq => hs_o (by decide)⟩
        · rw [hs_o (by decide)]; omega
        · rw [hs_o (by decide), pg1_l, if_neg (by omega)]; omega
        · rw [hs_o (by decide), pg1_m]; omega
        · rw [hs_k hqp, if_neg (by omega)]
      · show jT _ _ 23 _ _ _ _
        have no := k9.no p8 (by omega)
        have kk : (pgk U p : Int) = U 1 0 := by
          by_cases c : (pgk U p : Int) = U 1 0
          · exact c
          · exact absurd (s9.2.2 (by omega)) (no _ (by omega))
        refine tl_aload_n rfl rfl ?_
        refine tl_geti (c := 1) (k9 := 11) rfl rfl rfl ?_
        rw [k11]
        show jT _ _ 27 _ _ _ _
        refine tl_iload_n rfl rfl ?_
        refine tl_icmp_lt (tgt := 35) rfl rfl ⟨by omega, by omega⟩ ⟨by omega, by omega⟩ (fun c4 => ?_) (fun c4 => ?_)
        · skip
          refine tl_aload_n rfl rfl ?_
          refine tl_dup rfl rfl ?_
          refine tl_geti (c := 1) (k9 := 4) rfl rfl rfl ?_
          first | rw [k14] | rw [hs_k (by decide), hs_o (by decide), k14]
          refine tl_iconst rfl ?_
          refine tl_iadd rfl ?_
          show jT _ _ 42 _ _ _ _
          refine tl_puti (c := 1) (k9 := 4) rfl rfl rfl rfl ?_
          refine tl_aload_n rfl rfl ?_
          refine tl_dup rfl rfl ?_
          refine tl_geti (c := 1) (k9 := 11) rfl rfl rfl ?_
          first | rw [hs_k (by decide), k11] | rw [hs_k (by decide), hs_s]
          refine tl_iconst rfl ?_
          refine tl_iadd rfl ?_
          refine tl_puti (c := 1) (k9 := 11) rfl rfl rfl rfl ?_
          show jT _ _ 55 _ _ _ _
          refine tl_aload_n rfl rfl ?_
          refine tl_aload_n rfl rfl ?_
          refine tl_geti (c := 1) (k9 := 5) rfl rfl rfl ?_
          first | rw [hs_k (by decide), hs_k (by decide), k15] | rw [hs_k (by decide), hs_k (by decide), hs_k (by decide), hs_o (by decide), k15]
          refine tl_aload_n rfl rfl ?_
          refine tl_geti (c := 1) (k9 := 11) rfl rfl rfl ?_
          rw [hs_s]
          refine tl_s2i (c_max l _ _ _ ⟨by omega, by omega⟩ ⟨by omega, by omega⟩) rfl rfl rfl (Nat.le_of_ble_eq_true rfl) (fun z2 h2 p2 => ?_)
          obtain ⟨q2, rfl⟩ := p2
          have q2 := q2.symm
          subst q2
          refine tl_puti (c := 1) (k9 := 5) rfl rfl rfl rfl ?_
          show jT _ _ 70 _ _ _ _
          refine tl_aload_n rfl rfl ?_
          refine tl_getr (c := 1) (k9 := 10) (b := 361) rfl rfl rfl rfl ?_
          refine tl_iload_n rfl rfl ?_
          refine tl_iload_n rfl rfl ?_
          refine tl_iast (n := 8) rfl rfl rfl (by omega) (by omega) ?_
          rw [Int.toNat_natCast]
          refine tl_ret rfl ?_
          -- leaf 1 at 77
          refine ⟨rfl, k9.st u p8 t9.1 ?_ ?_ ?_ hs_s (fun q hq hqp => ?_), fun x x1 x2 => ?_, fun q hq => ?_⟩
          · rw [hs_o (by decide), hs_k (by decide), hs_s]; omega
          · rw [hs_o (by decide), hs_k (by decide), hs_k (by decide), hs_s, pg1_l, if_pos kk]
          · rw [hs_o (by decide), hs_s, pg1_m]; omega
          · rw [hs_k hqp, hs_o (by decide), hs_o (by decide), hs_o (by decide)]
            first
              | rw [if_neg (by omega)]
              | (rw [hs_o (by decide)]
                 by_cases c : U 0 0 = (q : Int)
                 · rw [if_pos (by omega), c, Int.toNat_natCast, hs_s]
                 · rw [if_neg (by omega), hs_k (by have := u.2.2.2.1 0 (by omega); omega)])
          · first | rw [hs_O x2, hs_O x1, hs_O x1, hs_O x1, hs_O x1, hs_O x2] | rw [hs_O x2, hs_O x1, hs_O x1, hs_O x1]
          · first | rw [hs_o (by decide), hs_k (by omega), hs_k (by omega), hs_k (by omega), hs_k (by omega), hs_o (by decide)] | rw [hs_o (by decide), hs_k (by omega), hs_k (by omega), hs_k (by omega)]
        · show jT _ _ 31 _ _ _ _
          refine tl_aload_n rfl rfl ?_
          show jT _ _ 32 _ _ _ _
          refine tl_v0v (c9 := 1) (k_giveUp l h U t fr u k9 t9 (by omega)) rfl rfl rfl rfl rfl (Nat.le_of_ble_eq_true rfl) (fun h1 p1 => ?_)
          subst p1
          refine tl_aload_n rfl rfl ?_
          refine tl_dup rfl rfl ?_
          refine tl_geti (c := 1) (k9 := 4) rfl rfl rfl ?_
          first | rw [k14] | rw [hs_k (by decide), hs_o (by decide), k14]
          refine tl_iconst rfl ?_
          refine tl_iadd rfl ?_
          refine tl_puti (c := 1) (k9 := 4) rfl rfl rfl rfl ?_
          show jT _ _ 45 _ _ _ _
          refine tl_aload_n rfl rfl ?_
          refine tl_dup rfl rfl ?_
          refine tl_geti (c := 1) (k9 := 11) rfl rfl rfl ?_
          first | rw [hs_k (by decide), k11] | rw [hs_k (by decide), hs_s]
          refine tl_iconst rfl ?_
          refine tl_iadd rfl ?_
          refine tl_puti (c := 1) (k9 := 11) rfl rfl rfl rfl ?_
          refine tl_aload_n rfl rfl ?_
          show jT _ _ 56 _ _ _ _
          refine tl_aload_n rfl rfl ?_
          refine tl_geti (c := 1) (k9 := 5) rfl rfl rfl ?_
          first | rw [hs_k (by decide), hs_k (by decide), k15] | rw [hs_k (by decide), hs_k (by decide), hs_k (by decide), hs_o (by decide), k15]
          refine tl_aload_n rfl rfl ?_
          refine tl_geti (c := 1) (k9 := 11) rfl rfl rfl ?_
          rw [hs_s]
          refine tl_s2i (c_max l _ _ _ ⟨by omega, by omega⟩ ⟨by omega, by omega⟩) rfl rfl rfl (Nat.le_of_ble_eq_true rfl) (fun z2 h2 p2 => ?_)
          obtain ⟨q2, rfl⟩ := p2
          have q2 := q2.symm
          subst q2
          refine tl_puti (c := 1) (k9 := 5) rfl rfl rfl rfl ?_
          refine tl_aload_n rfl rfl ?_
          show jT _ _ 71 _ _ _ _
          refine tl_getr (c := 1) (k9 := 10) (b := 361) rfl rfl rfl rfl ?_
          refine tl_iload_n rfl rfl ?_
          refine tl_iload_n rfl rfl ?_
          refine tl_iast (n := 8) rfl rfl rfl (by omega) (by omega) ?_
          rw [Int.toNat_natCast]
          refine tl_ret rfl ?_
          -- leaf 2 at 77
          refine ⟨rfl, k9.st u p8 t9.1 ?_ ?_ ?_ hs_s (fun q hq hqp => ?_), fun x x1 x2 => ?_, fun q hq => ?_⟩
          · rw [hs_o (by decide), hs_k (by decide), hs_s]; omega
          · rw [hs_o (by decide), hs_k (by decide), hs_k (by decide), hs_s, pg1_l, if_pos kk]
          · rw [hs_o (by decide), hs_s, pg1_m]; omega
          · rw [hs_k hqp, hs_o (by decide), hs_o (by decide), hs_o (by decide)]
            first
              | rw [if_neg (by omega)]
              | (rw [hs_o (by decide)]
                 by_cases c : U 0 0 = (q : Int)
                 · rw [if_pos (by omega), c, Int.toNat_natCast, hs_s]
                 · rw [if_neg (by omega), hs_k (by have := u.2.2.2.1 0 (by omega); omega)])
          · first | rw [hs_O x2, hs_O x1, hs_O x1, hs_O x1, hs_O x1, hs_O x2] | rw [hs_O x2, hs_O x1, hs_O x1, hs_O x1]
          · first | rw [hs_o (by decide), hs_k (by omega), hs_k (by omega), hs_k (by omega), hs_k (by omega), hs_o (by decide)] | rw [hs_o (by decide), hs_k (by omega), hs_k (by omega), hs_k (by omega)]
    · show jT _ _ 13 _ _ _ _
      exfalso; omega
