/-! a patch read: its parts, of the reference -/
def tn1 (B : Nat → Int) (N p : Nat) : Int × Nat × Int := rnR B N p 0
def tn2 (B : Nat → Int) (N p : Nat) : Int × Nat × Int := rnR B N (tn1 B N p).2.1 (tn1 B N p).2.2
def tn3 (B : Nat → Int) (N p : Nat) : Int × Nat × Int := rnR B N (tn2 B N p).2.1 (tn2 B N p).2.2
theorem tn_e {B : Nat → Int} {N p : Nat} (hB : BB B N) (hp : p ≤ N) : (((pA B N p).1 < 0 ∨ (pB B N p).1 < 0 ∨ (pC B N p).1 < 0) ∧ (tn3 B N p).2.2 = 3) ∨ (¬ ((pA B N p).1 < 0 ∨ (pB B N p).1 < 0 ∨ (pC B N p).1 < 0) ∧ tn1 B N p = ((pA B N p).1, (pA B N p).2, 0) ∧ tn2 B N p = ((pB B N p).1, (pB B N p).2, 0) ∧ tn3 B N p = ((pC B N p).1, (pC B N p).2, 0)) := by
  have a := rnR_e hB hp
  have ab := (rn_b hB hp).2.2.1
  have b := rnR_e hB ab
  have bb := (rn_b hB ab).2.2.1
  have c := rnR_e hB bb
  by_cases x : (pA B N p).1 < 0
  · refine Or.inl ⟨Or.inl x, ?_⟩
    have e1 : (tn1 B N p).2.2 = 3 := a.2 x
    have e2 : (tn2 B N p) = (0, (tn1 B N p).2.1, 3) := by rw [tn2, e1]; exact rnR_z (by decide)
    rw [tn3, e2, rnR_z (show (3 : Int) ≠ 0 by decide)]
  have e1 : tn1 B N p = ((pA B N p).1, (pA B N p).2, 0) := a.1 (Int.not_lt.mp x)
  by_cases y : (pB B N p).1 < 0
  · refine Or.inl ⟨Or.inr (Or.inl y), ?_⟩
    have e2 : (tn2 B N p).2.2 = 3 := by rw [tn2, e1]; exact b.2 y
    rw [tn3, e2, rnR_z (by decide)]
  have e2 : tn2 B N p = ((pB B N p).1, (pB B N p).2, 0) := by rw [tn2, e1]; exact b.1 (Int.not_lt.mp y)
  by_cases z : (pC B N p).1 < 0
  · refine Or.inl ⟨Or.inr (Or.inr z), ?_⟩
    rw [tn3, e2]; exact c.2 z
  have e3 : tn3 B N p = ((pC B N p).1, (pC B N p).2, 0) := by rw [tn3, e2]; exact c.1 (Int.not_lt.mp z)
  exact Or.inr ⟨fun w => w.elim x (fun w => w.elim y z), e1, e2, e3⟩
theorem RDR.at9 {h h' : jH} {B : Nat → Int} {N p : Nat} {f : Int} (k : RDR h B N p f) (e : ∀ q, q = 31 ∨ q = 32 ∨ q = 33 → h' 388 q = h 388 q) (e2 : h' 407 = h 407) : RDR h' B N p f := ⟨by rw [e 32 (by omega)]; exact k.1, by rw [e 31 (by omega)]; exact k.2.1, by rw [e 33 (by omega)]; exact k.2.2.1, by rw [e2]; exact k.2.2.2.1, k.2.2.2.2⟩
theorem hs_k2 {h : jH} {a k b j : Nat} {v : Int} (hj : j ≠ k) : hs h a k v b j = h b j := by
  by_cases c : b = a
  · rw [c]; exact hs_k hj
  · rw [hs_O c]
set_option maxRecDepth 20000 in
set_option maxHeartbeats 1000000 in
theorem r_readPart (l : Launch) (h : jH) (B : Nat → Int) (N p : Nat) (k : RDR h B N p 0) (kk : Nat) (kk9 : kk < 100) (ahead spots os ns : Int) (ab : 0 ≤ ahead ∧ ahead ≤ 64) (sb : 0 ≤ spots ∧ spots ≤ 64) (hos : h 388 34 = os) (hns : h 388 36 = ns) (ob : 0 ≤ os ∧ os ≤ 64) (nb9 : 0 ≤ ns ∧ ns ≤ 64) : cV l 278 [.ref 388, .int (jI (kk : Int)), .int (jI ahead), .int (jI spots)] h (fun h' => (((pA B N p).1 < 0 ∨ (pB B N p).1 < 0 ∨ (pC B N p).1 < 0) → (∃ p2, RDR h' B N p2 3)) ∧ (¬ ((pA B N p).1 < 0 ∨ (pB B N p).1 < 0 ∨ (pC B N p).1 < 0) → RDR h' B N (pC B N p).2 (if (ahead + sk9 (pA B N p).1) < 0 ∨ os < (ahead + sk9 (pA B N p).1) + (pB B N p).1 ∨ ns < spots + (pB B N p).1 + (pC B N p).1 then 5 else 0) ∧ h' 408 kk = (ahead + sk9 (pA B N p).1) ∧ h' 409 kk = (pB B N p).1 ∧ h' 410 kk = (pC B N p).1 ∧ h' 411 kk = spots) ∧ (∀ x, (x < 388 ∨ (388 < x ∧ x < 408) ∨ 411 < x) → h' x = h x) ∧ (∀ q, q ≠ 32 → q ≠ 33 → h' 388 q = h 388 q) ∧ ∀ x q, x ≠ 388 → q ≠ kk → h' x q = h x q) := by
  have hB := k.2.2.2.2.1
  have hp := k.2.2.2.2.2.2.1
  have te := tn_e hB hp
  have a1 := (rn_b hB hp).1
  have a3 := (rn_b hB hp).2.2.1
  have b1 := (rn_b hB a3).1
  have b3 := (rn_b hB a3).2.2.1
  have d1 := (rn_b hB b3).1
  change -1 ≤ (pA B N p).1 ∧ (pA B N p).1 ≤ 16383 at a1
  change -1 ≤ (pB B N p).1 ∧ (pB B N p).1 ≤ 16383 at b1
  change -1 ≤ (pC B N p).1 ∧ (pC B N p).1 ≤ 16383 at d1
  clear a3 b3
  have sk : (pA B N p).1 % 2 = 0 ∧ sk9 (pA B N p).1 = (pA B N p).1 / 2 ∨ (pA B N p).1 % 2 ≠ 0 ∧ sk9 (pA B N p).1 = -(((pA B N p).1 + 1) / 2) := by
    by_cases z : (pA B N p).1 % 2 = 0
    · exact Or.inl ⟨z, by rw [sk9, if_pos z]⟩
    · exact Or.inr ⟨z, by rw [sk9, if_neg z]⟩
  refine cV.of rfl rfl ?_
  refine tl_aload_n rfl rfl ?_
  refine tl_v0i (c9 := 12) (r_nextNum l h B N p 0 k) rfl rfl rfl rfl rfl (Nat.le_of_ble_eq_true rfl) (fun z1 h1 p1 => ?_)
  obtain ⟨e1, k1, f1⟩ := p1
  change z1 = (tn1 B N p).1 at e1
  change RDR h1 B N (tn1 B N p).2.1 (tn1 B N p).2.2 at k1
  subst e1
  refine tl_istore rfl (Nat.le_of_ble_eq_true rfl) rfl ?_
  refine tl_aload_n rfl rfl ?_
  refine tl_v0i (c9 := 12) (r_nextNum l h1 B N (tn1 B N p).2.1 (tn1 B N p).2.2 k1) rfl rfl rfl rfl rfl (Nat.le_of_ble_eq_true rfl) (fun z2 h2 p2 => ?_)
  obtain ⟨e2, k2, f2⟩ := p2
  change z2 = (tn2 B N p).1 at e2
  change RDR h2 B N (tn2 B N p).2.1 (tn2 B N p).2.2 at k2
  subst e2
  refine tl_istore rfl (Nat.le_of_ble_eq_true rfl) rfl ?_
  show jT _ _ 12 _ _ _ _
  refine tl_aload_n rfl rfl ?_
  refine tl_v0i (c9 := 12) (r_nextNum l h2 B N (tn2 B N p).2.1 (tn2 B N p).2.2 k2) rfl rfl rfl rfl rfl (Nat.le_of_ble_eq_true rfl) (fun z3 h3 p3 => ?_)
  obtain ⟨e3, k3, f3⟩ := p3
  change z3 = (tn3 B N p).1 at e3
  change RDR h3 B N (tn3 B N p).2.1 (tn3 B N p).2.2 at k3
  subst e3
  refine tl_istore rfl (Nat.le_of_ble_eq_true rfl) rfl ?_
  refine tl_aload_n rfl rfl ?_
  refine tl_geti (c := 12) (k9 := 33) rfl rfl rfl ?_
  have f39 := k3.2.2.2.2.2.2.2
  rw [k3.2.2.1]
  refine tl_if_ne (tgt := 126) rfl rfl ⟨by omega, by omega⟩ (fun c1 => ?_) (fun c1 => ?_)
  · skip
    refine tl_ret rfl ?_
    -- leaf 0 at 126
    rcases te with te | te
    · refine ⟨rfl, fun _ => ⟨_, by rw [te.2] at k3; exact k3⟩, fun w => absurd te.1 w, ?_, ?_, ?_⟩
      · intro x hx; exact (f1.trans (f2.trans f3)).1 x (by omega)
      · intro q q1 q2; exact (f1.trans (f2.trans f3)).2 q q1 q2
      · intro x q hx hq; rw [(f1.trans (f2.trans f3)).1 x hx]
    · have w := te.2.2.2
      exfalso
      exact c1 (by rw [w])
  · show jT _ _ 25 _ _ _ _
    rcases te with te | te
    · exfalso; omega
    obtain ⟨nb, te1, te2, te3⟩ := te
    rw [te3] at k3
    rw [te1, te2, te3]
    change RDR h3 B N (pC B N p).2 0 at k3
    show jT _ _ _ [some (.ref 388), some (.int (jI ((kk : Int)))), some (.int (jI (ahead))), some (.int (jI (spots))), some (.int (jI ((pA B N p).1))), some (.int (jI ((pB B N p).1))), some (.int (jI ((pC B N p).1)))] _ _ _
    have f0 := f1.trans (f2.trans f3)
    show jT _ _ 25 _ _ _ _
    refine tl_aload_n rfl rfl ?_
    refine tl_getr (c := 12) (k9 := 39) (b := 408) rfl rfl rfl rfl ?_
    refine tl_iload_n rfl rfl ?_
    refine tl_iload_n rfl rfl ?_
    refine tl_iload rfl rfl ?_
    refine tl_iconst rfl ?_
    refine tl_irem rfl (by omega) (by omega) (by omega) (by omega) ?_
    show jT _ _ 35 _ _ _ _
    refine tl_if_ne (tgt := 45) rfl rfl ⟨by omega, by omega⟩ (fun c2 => ?_) (fun c2 => ?_)
    · skip
      refine tl_iload rfl rfl ?_
      refine tl_iconst rfl ?_
      refine tl_iadd rfl ?_
      refine tl_ineg rfl ?_
      refine tl_iconst rfl ?_
      refine tl_idivN rfl (by omega) (by omega) (by omega) (by omega) ?_
      show jT _ _ 52 _ _ _ _
      -- leaf 1 at 52
      refine tl_iadd rfl ?_
      refine tl_iast (n := 100) rfl rfl rfl (by omega) (by omega) ?_
      rw [Int.toNat_natCast]
      first | rw [show ahead + (pA B N p).1 / 2 = (ahead + sk9 (pA B N p).1) by omega] | rw [show ahead + -(((pA B N p).1 + 1) / 2) = (ahead + sk9 (pA B N p).1) by omega]
      refine tl_aload_n rfl rfl ?_
      refine tl_getr (c := 12) (k9 := 40) (b := 409) rfl rfl rfl rfl ?_
      refine tl_iload_n rfl rfl ?_
      refine tl_iload rfl rfl ?_
      show jT _ _ 61 _ _ _ _
      refine tl_iast (n := 100) rfl rfl rfl (by omega) (by omega) ?_
      rw [Int.toNat_natCast]
      refine tl_aload_n rfl rfl ?_
      refine tl_getr (c := 12) (k9 := 41) (b := 410) rfl rfl rfl rfl ?_
      refine tl_iload_n rfl rfl ?_
      refine tl_iload rfl rfl ?_
      refine tl_iast (n := 100) rfl rfl rfl (by omega) (by omega) ?_
      rw [Int.toNat_natCast]
      refine tl_aload_n rfl rfl ?_
      show jT _ _ 71 _ _ _ _
      refine tl_getr (c := 12) (k9 := 42) (b := 411) rfl rfl rfl rfl ?_
      refine tl_iload_n rfl rfl ?_
      refine tl_iload_n rfl rfl ?_
      refine tl_iast (n := 100) rfl rfl rfl (by omega) (by omega) ?_
      rw [Int.toNat_natCast]
      have k4 : RDR (hs (hs (hs (hs h3 408 kk (ahead + sk9 (pA B N p).1)) 409 kk (pB B N p).1) 410 kk (pC B N p).1) 411 kk spots) B N (pC B N p).2 0 := k3.at9 (fun q _ => by rw [hs_o (by decide), hs_o (by decide), hs_o (by decide), hs_o (by decide)]) (by rw [hs_O (by decide), hs_O (by decide), hs_O (by decide), hs_O (by decide)])
      refine tl_aload_n rfl rfl ?_
      refine tl_aload_n rfl rfl ?_
      refine tl_getr (c := 12) (k9 := 39) (b := 408) rfl rfl rfl rfl ?_
      show jT _ _ 82 _ _ _ _
      refine tl_iload_n rfl rfl ?_
      refine tl_iald (n := 100) rfl rfl rfl (by omega) (by omega) ?_
      rw [Int.toNat_natCast, hs_o (by decide), hs_o (by decide), hs_o (by decide), hs_s]
      refine tl_if_lt (tgt := 117) rfl rfl ⟨by omega, by omega⟩ (fun c1 => ?_) (fun c1 => ?_)
      · skip
        refine tl_iconst rfl ?_
        refine tl_goto (tgt := 122) rfl rfl ?_
        refine tl_iconst rfl ?_
        refine tl_v2v (c9 := 12) (r_fails l _ B N (pC B N p).2 0 k4 _ 5 (by omega) (by omega) (by omega)) rfl rfl rfl rfl rfl (Nat.le_of_ble_eq_true rfl) (fun h5 p5 => ?_)
        obtain ⟨k5, f5⟩ := p5
        show jT _ _ 126 _ _ _ _
        refine tl_ret rfl ?_
        -- leaf 0 at 126
        refine ⟨rfl, fun w => absurd w nb, fun _ => ⟨?_, ?_, ?_, ?_, ?_⟩, ?_, ?_, ?_⟩
        · first
            | (exfalso; omega)
            | (rw [if_pos (by omega)]; rw [if_pos (by omega)] at k5; exact k5)
            | (rw [if_neg (by omega)]; rw [if_neg (by omega)] at k5; exact k5)
        · rw [f5.1 408 (by decide), hs_o (by decide), hs_o (by decide), hs_o (by decide), hs_s]
        · rw [f5.1 409 (by decide), hs_o (by decide), hs_o (by decide), hs_s]
        · rw [f5.1 410 (by decide), hs_o (by decide), hs_s]
        · rw [f5.1 411 (by decide), hs_s]
        · intro x hx
          rw [f5.1 x (by omega), hs_O (by omega), hs_O (by omega), hs_O (by omega), hs_O (by omega)]; exact f0.1 x (by omega)
        · intro q q1 q2
          rw [f5.2 q q1 q2, hs_o (by decide), hs_o (by decide), hs_o (by decide), hs_o (by decide)]; exact f0.2 q q1 q2
        · intro x q hx hq
          rw [f5.1 x hx, hs_k2 hq, hs_k2 hq, hs_k2 hq, hs_k2 hq, f0.1 x hx]
      · show jT _ _ 87 _ _ _ _
        refine tl_aload_n rfl rfl ?_
        refine tl_getr (c := 12) (k9 := 39) (b := 408) rfl rfl rfl rfl ?_
        refine tl_iload_n rfl rfl ?_
        refine tl_iald (n := 100) rfl rfl rfl (by omega) (by omega) ?_
        rw [Int.toNat_natCast, hs_o (by decide), hs_o (by decide), hs_o (by decide), hs_s]
        refine tl_iload rfl rfl ?_
        refine tl_iadd rfl ?_
        show jT _ _ 96 _ _ _ _
        refine tl_aload_n rfl rfl ?_
        refine tl_geti (c := 12) (k9 := 34) rfl rfl rfl ?_
        rw [hs_o (by decide), hs_o (by decide), hs_o (by decide), hs_o (by decide), f0.2 34 (by decide) (by decide), hos]
        refine tl_icmp_gt (tgt := 117) rfl rfl ⟨by omega, by omega⟩ ⟨by omega, by omega⟩ (fun c2 => ?_) (fun c2 => ?_)
        · skip
          refine tl_iconst rfl ?_
          refine tl_goto (tgt := 122) rfl rfl ?_
          refine tl_iconst rfl ?_
          refine tl_v2v (c9 := 12) (r_fails l _ B N (pC B N p).2 0 k4 _ 5 (by omega) (by omega) (by omega)) rfl rfl rfl rfl rfl (Nat.le_of_ble_eq_true rfl) (fun h5 p5 => ?_)
          obtain ⟨k5, f5⟩ := p5
          show jT _ _ 126 _ _ _ _
          refine tl_ret rfl ?_
          -- leaf 1 at 126
          refine ⟨rfl, fun w => absurd w nb, fun _ => ⟨?_, ?_, ?_, ?_, ?_⟩, ?_, ?_, ?_⟩
          · first
              | (exfalso; omega)
              | (rw [if_pos (by omega)]; rw [if_pos (by omega)] at k5; exact k5)
              | (rw [if_neg (by omega)]; rw [if_neg (by omega)] at k5; exact k5)
          · rw [f5.1 408 (by decide), hs_o (by decide), hs_o (by decide), hs_o (by decide), hs_s]
          · rw [f5.1 409 (by decide), hs_o (by decide), hs_o (by decide), hs_s]
          · rw [f5.1 410 (by decide), hs_o (by decide), hs_s]
          · rw [f5.1 411 (by decide), hs_s]
          · intro x hx
            rw [f5.1 x (by omega), hs_O (by omega), hs_O (by omega), hs_O (by omega), hs_O (by omega)]; exact f0.1 x (by omega)
          · intro q q1 q2
            rw [f5.2 q q1 q2, hs_o (by decide), hs_o (by decide), hs_o (by decide), hs_o (by decide)]; exact f0.2 q q1 q2
          · intro x q hx hq
            rw [f5.1 x hx, hs_k2 hq, hs_k2 hq, hs_k2 hq, hs_k2 hq, f0.1 x hx]
        · show jT _ _ 103 _ _ _ _
          refine tl_iload_n rfl rfl ?_
          refine tl_iload rfl rfl ?_
          refine tl_iadd rfl ?_
          refine tl_iload rfl rfl ?_
          refine tl_iadd rfl ?_
          refine tl_aload_n rfl rfl ?_
          show jT _ _ 111 _ _ _ _
          refine tl_geti (c := 12) (k9 := 36) rfl rfl rfl ?_
          rw [hs_o (by decide), hs_o (by decide), hs_o (by decide), hs_o (by decide), f0.2 36 (by decide) (by decide), hns]
          refine tl_icmp_le (tgt := 121) rfl rfl ⟨by omega, by omega⟩ ⟨by omega, by omega⟩ (fun c3 => ?_) (fun c3 => ?_)
          · skip
            refine tl_iconst rfl ?_
            refine tl_iconst rfl ?_
            refine tl_v2v (c9 := 12) (r_fails l _ B N (pC B N p).2 0 k4 _ 5 (by omega) (by omega) (by omega)) rfl rfl rfl rfl rfl (Nat.le_of_ble_eq_true rfl) (fun h5 p5 => ?_)
            obtain ⟨k5, f5⟩ := p5
            refine tl_ret rfl ?_
            -- leaf 2 at 126
            refine ⟨rfl, fun w => absurd w nb, fun _ => ⟨?_, ?_, ?_, ?_, ?_⟩, ?_, ?_, ?_⟩
            · first
                | (exfalso; omega)
                | (rw [if_pos (by omega)]; rw [if_pos (by omega)] at k5; exact k5)
                | (rw [if_neg (by omega)]; rw [if_neg (by omega)] at k5; exact k5)
            · rw [f5.1 408 (by decide), hs_o (by decide), hs_o (by decide), hs_o (by decide), hs_s]
            · rw [f5.1 409 (by decide), hs_o (by decide), hs_o (by decide), hs_s]
            · rw [f5.1 410 (by decide), hs_o (by decide), hs_s]
            · rw [f5.1 411 (by decide), hs_s]
            · intro x hx
              rw [f5.1 x (by omega), hs_O (by omega), hs_O (by omega), hs_O (by omega), hs_O (by omega)]; exact f0.1 x (by omega)
            · intro q q1 q2
              rw [f5.2 q q1 q2, hs_o (by decide), hs_o (by decide), hs_o (by decide), hs_o (by decide)]; exact f0.2 q q1 q2
            · intro x q hx hq
              rw [f5.1 x hx, hs_k2 hq, hs_k2 hq, hs_k2 hq, hs_k2 hq, f0.1 x hx]
          · show jT _ _ 117 _ _ _ _
            refine tl_iconst rfl ?_
            show jT _ _ 118 _ _ _ _
            refine tl_goto (tgt := 122) rfl rfl ?_
            refine tl_iconst rfl ?_
            refine tl_v2v (c9 := 12) (r_fails l _ B N (pC B N p).2 0 k4 _ 5 (by omega) (by omega) (by omega)) rfl rfl rfl rfl rfl (Nat.le_of_ble_eq_true rfl) (fun h5 p5 => ?_)
            obtain ⟨k5, f5⟩ := p5
            refine tl_ret rfl ?_
            -- leaf 3 at 126
            refine ⟨rfl, fun w => absurd w nb, fun _ => ⟨?_, ?_, ?_, ?_, ?_⟩, ?_, ?_, ?_⟩
            · first
                | (exfalso; omega)
                | (rw [if_pos (by omega)]; rw [if_pos (by omega)] at k5; exact k5)
                | (rw [if_neg (by omega)]; rw [if_neg (by omega)] at k5; exact k5)
            · rw [f5.1 408 (by decide), hs_o (by decide), hs_o (by decide), hs_o (by decide), hs_s]
            · rw [f5.1 409 (by decide), hs_o (by decide), hs_o (by decide), hs_s]
            · rw [f5.1 410 (by decide), hs_o (by decide), hs_s]
            · rw [f5.1 411 (by decide), hs_s]
            · intro x hx
              rw [f5.1 x (by omega), hs_O (by omega), hs_O (by omega), hs_O (by omega), hs_O (by omega)]; exact f0.1 x (by omega)
            · intro q q1 q2
              rw [f5.2 q q1 q2, hs_o (by decide), hs_o (by decide), hs_o (by decide), hs_o (by decide)]; exact f0.2 q q1 q2
            · intro x q hx hq
              rw [f5.1 x hx, hs_k2 hq, hs_k2 hq, hs_k2 hq, hs_k2 hq, f0.1 x hx]
    · show jT _ _ 38 _ _ _ _
      show jT _ _ 38 _ _ _ _
      refine tl_iload rfl rfl ?_
      refine tl_iconst rfl ?_
      refine tl_idiv rfl (by omega) (by omega) (by omega) (by omega) ?_
      refine tl_goto (tgt := 52) rfl rfl ?_
      show jT _ _ 52 _ _ _ _
      -- leaf 2 at 52
      refine tl_iadd rfl ?_
      refine tl_iast (n := 100) rfl rfl rfl (by omega) (by omega) ?_
      rw [Int.toNat_natCast]
      first | rw [show ahead + (pA B N p).1 / 2 = (ahead + sk9 (pA B N p).1) by omega] | rw [show ahead + -(((pA B N p).1 + 1) / 2) = (ahead + sk9 (pA B N p).1) by omega]
      refine tl_aload_n rfl rfl ?_
      refine tl_getr (c := 12) (k9 := 40) (b := 409) rfl rfl rfl rfl ?_
      refine tl_iload_n rfl rfl ?_
      refine tl_iload rfl rfl ?_
      show jT _ _ 61 _ _ _ _
      refine tl_iast (n := 100) rfl rfl rfl (by omega) (by omega) ?_
      rw [Int.toNat_natCast]
      refine tl_aload_n rfl rfl ?_
      refine tl_getr (c := 12) (k9 := 41) (b := 410) rfl rfl rfl rfl ?_
      refine tl_iload_n rfl rfl ?_
      refine tl_iload rfl rfl ?_
      refine tl_iast (n := 100) rfl rfl rfl (by omega) (by omega) ?_
      rw [Int.toNat_natCast]
      refine tl_aload_n rfl rfl ?_
      show jT _ _ 71 _ _ _ _
      refine tl_getr (c := 12) (k9 := 42) (b := 411) rfl rfl rfl rfl ?_
      refine tl_iload_n rfl rfl ?_
      refine tl_iload_n rfl rfl ?_
      refine tl_iast (n := 100) rfl rfl rfl (by omega) (by omega) ?_
      rw [Int.toNat_natCast]
      have k4 : RDR (hs (hs (hs (hs h3 408 kk (ahead + sk9 (pA B N p).1)) 409 kk (pB B N p).1) 410 kk (pC B N p).1) 411 kk spots) B N (pC B N p).2 0 := k3.at9 (fun q _ => by rw [hs_o (by decide), hs_o (by decide), hs_o (by decide), hs_o (by decide)]) (by rw [hs_O (by decide), hs_O (by decide), hs_O (by decide), hs_O (by decide)])
      refine tl_aload_n rfl rfl ?_
      refine tl_aload_n rfl rfl ?_
      refine tl_getr (c := 12) (k9 := 39) (b := 408) rfl rfl rfl rfl ?_
      show jT _ _ 82 _ _ _ _
      refine tl_iload_n rfl rfl ?_
      refine tl_iald (n := 100) rfl rfl rfl (by omega) (by omega) ?_
      rw [Int.toNat_natCast, hs_o (by decide), hs_o (by decide), hs_o (by decide), hs_s]
      refine tl_if_lt (tgt := 117) rfl rfl ⟨by omega, by omega⟩ (fun c1 => ?_) (fun c1 => ?_)
      · skip
        refine tl_iconst rfl ?_
        refine tl_goto (tgt := 122) rfl rfl ?_
        refine tl_iconst rfl ?_
        refine tl_v2v (c9 := 12) (r_fails l _ B N (pC B N p).2 0 k4 _ 5 (by omega) (by omega) (by omega)) rfl rfl rfl rfl rfl (Nat.le_of_ble_eq_true rfl) (fun h5 p5 => ?_)
        obtain ⟨k5, f5⟩ := p5
        show jT _ _ 126 _ _ _ _
        refine tl_ret rfl ?_
        -- leaf 0 at 126
        refine ⟨rfl, fun w => absurd w nb, fun _ => ⟨?_, ?_, ?_, ?_, ?_⟩, ?_, ?_, ?_⟩
        · first
            | (exfalso; omega)
            | (rw [if_pos (by omega)]; rw [if_pos (by omega)] at k5; exact k5)
            | (rw [if_neg (by omega)]; rw [if_neg (by omega)] at k5; exact k5)
        · rw [f5.1 408 (by decide), hs_o (by decide), hs_o (by decide), hs_o (by decide), hs_s]
        · rw [f5.1 409 (by decide), hs_o (by decide), hs_o (by decide), hs_s]
        · rw [f5.1 410 (by decide), hs_o (by decide), hs_s]
        · rw [f5.1 411 (by decide), hs_s]
        · intro x hx
          rw [f5.1 x (by omega), hs_O (by omega), hs_O (by omega), hs_O (by omega), hs_O (by omega)]; exact f0.1 x (by omega)
        · intro q q1 q2
          rw [f5.2 q q1 q2, hs_o (by decide), hs_o (by decide), hs_o (by decide), hs_o (by decide)]; exact f0.2 q q1 q2
        · intro x q hx hq
          rw [f5.1 x hx, hs_k2 hq, hs_k2 hq, hs_k2 hq, hs_k2 hq, f0.1 x hx]
      · show jT _ _ 87 _ _ _ _
        refine tl_aload_n rfl rfl ?_
        refine tl_getr (c := 12) (k9 := 39) (b := 408) rfl rfl rfl rfl ?_
        refine tl_iload_n rfl rfl ?_
        refine tl_iald (n := 100) rfl rfl rfl (by omega) (by omega) ?_
        rw [Int.toNat_natCast, hs_o (by decide), hs_o (by decide), hs_o (by decide), hs_s]
        refine tl_iload rfl rfl ?_
        refine tl_iadd rfl ?_
        show jT _ _ 96 _ _ _ _
        refine tl_aload_n rfl rfl ?_
        refine tl_geti (c := 12) (k9 := 34) rfl rfl rfl ?_
        rw [hs_o (by decide), hs_o (by decide), hs_o (by decide), hs_o (by decide), f0.2 34 (by decide) (by decide), hos]
        refine tl_icmp_gt (tgt := 117) rfl rfl ⟨by omega, by omega⟩ ⟨by omega, by omega⟩ (fun c2 => ?_) (fun c2 => ?_)
        · skip
          refine tl_iconst rfl ?_
          refine tl_goto (tgt := 122) rfl rfl ?_
          refine tl_iconst rfl ?_
          refine tl_v2v (c9 := 12) (r_fails l _ B N (pC B N p).2 0 k4 _ 5 (by omega) (by omega) (by omega)) rfl rfl rfl rfl rfl (Nat.le_of_ble_eq_true rfl) (fun h5 p5 => ?_)
          obtain ⟨k5, f5⟩ := p5
          show jT _ _ 126 _ _ _ _
          refine tl_ret rfl ?_
          -- leaf 1 at 126
          refine ⟨rfl, fun w => absurd w nb, fun _ => ⟨?_, ?_, ?_, ?_, ?_⟩, ?_, ?_, ?_⟩
          · first
              | (exfalso; omega)
              | (rw [if_pos (by omega)]; rw [if_pos (by omega)] at k5; exact k5)
              | (rw [if_neg (by omega)]; rw [if_neg (by omega)] at k5; exact k5)
          · rw [f5.1 408 (by decide), hs_o (by decide), hs_o (by decide), hs_o (by decide), hs_s]
          · rw [f5.1 409 (by decide), hs_o (by decide), hs_o (by decide), hs_s]
          · rw [f5.1 410 (by decide), hs_o (by decide), hs_s]
          · rw [f5.1 411 (by decide), hs_s]
          · intro x hx
            rw [f5.1 x (by omega), hs_O (by omega), hs_O (by omega), hs_O (by omega), hs_O (by omega)]; exact f0.1 x (by omega)
          · intro q q1 q2
            rw [f5.2 q q1 q2, hs_o (by decide), hs_o (by decide), hs_o (by decide), hs_o (by decide)]; exact f0.2 q q1 q2
          · intro x q hx hq
            rw [f5.1 x hx, hs_k2 hq, hs_k2 hq, hs_k2 hq, hs_k2 hq, f0.1 x hx]
        · show jT _ _ 103 _ _ _ _
          refine tl_iload_n rfl rfl ?_
          refine tl_iload rfl rfl ?_
          refine tl_iadd rfl ?_
          refine tl_iload rfl rfl ?_
          refine tl_iadd rfl ?_
          refine tl_aload_n rfl rfl ?_
          show jT _ _ 111 _ _ _ _
          refine tl_geti (c := 12) (k9 := 36) rfl rfl rfl ?_
          rw [hs_o (by decide), hs_o (by decide), hs_o (by decide), hs_o (by decide), f0.2 36 (by decide) (by decide), hns]
          refine tl_icmp_le (tgt := 121) rfl rfl ⟨by omega, by omega⟩ ⟨by omega, by omega⟩ (fun c3 => ?_) (fun c3 => ?_)
          · skip
            refine tl_iconst rfl ?_
            refine tl_iconst rfl ?_
            refine tl_v2v (c9 := 12) (r_fails l _ B N (pC B N p).2 0 k4 _ 5 (by omega) (by omega) (by omega)) rfl rfl rfl rfl rfl (Nat.le_of_ble_eq_true rfl) (fun h5 p5 => ?_)
            obtain ⟨k5, f5⟩ := p5
            refine tl_ret rfl ?_
            -- leaf 2 at 126
            refine ⟨rfl, fun w => absurd w nb, fun _ => ⟨?_, ?_, ?_, ?_, ?_⟩, ?_, ?_, ?_⟩
            · first
                | (exfalso; omega)
                | (rw [if_pos (by omega)]; rw [if_pos (by omega)] at k5; exact k5)
                | (rw [if_neg (by omega)]; rw [if_neg (by omega)] at k5; exact k5)
            · rw [f5.1 408 (by decide), hs_o (by decide), hs_o (by decide), hs_o (by decide), hs_s]
            · rw [f5.1 409 (by decide), hs_o (by decide), hs_o (by decide), hs_s]
            · rw [f5.1 410 (by decide), hs_o (by decide), hs_s]
            · rw [f5.1 411 (by decide), hs_s]
            · intro x hx
              rw [f5.1 x (by omega), hs_O (by omega), hs_O (by omega), hs_O (by omega), hs_O (by omega)]; exact f0.1 x (by omega)
            · intro q q1 q2
              rw [f5.2 q q1 q2, hs_o (by decide), hs_o (by decide), hs_o (by decide), hs_o (by decide)]; exact f0.2 q q1 q2
            · intro x q hx hq
              rw [f5.1 x hx, hs_k2 hq, hs_k2 hq, hs_k2 hq, hs_k2 hq, f0.1 x hx]
          · show jT _ _ 117 _ _ _ _
            refine tl_iconst rfl ?_
            show jT _ _ 118 _ _ _ _
            refine tl_goto (tgt := 122) rfl rfl ?_
            refine tl_iconst rfl ?_
            refine tl_v2v (c9 := 12) (r_fails l _ B N (pC B N p).2 0 k4 _ 5 (by omega) (by omega) (by omega)) rfl rfl rfl rfl rfl (Nat.le_of_ble_eq_true rfl) (fun h5 p5 => ?_)
            obtain ⟨k5, f5⟩ := p5
            refine tl_ret rfl ?_
            -- leaf 3 at 126
            refine ⟨rfl, fun w => absurd w nb, fun _ => ⟨?_, ?_, ?_, ?_, ?_⟩, ?_, ?_, ?_⟩
            · first
                | (exfalso; omega)
                | (rw [if_pos (by omega)]; rw [if_pos (by omega)] at k5; exact k5)
                | (rw [if_neg (by omega)]; rw [if_neg (by omega)] at k5; exact k5)
            · rw [f5.1 408 (by decide), hs_o (by decide), hs_o (by decide), hs_o (by decide), hs_s]
            · rw [f5.1 409 (by decide), hs_o (by decide), hs_o (by decide), hs_s]
            · rw [f5.1 410 (by decide), hs_o (by decide), hs_s]
            · rw [f5.1 411 (by decide), hs_s]
            · intro x hx
              rw [f5.1 x (by omega), hs_O (by omega), hs_O (by omega), hs_O (by omega), hs_O (by omega)]; exact f0.1 x (by omega)
            · intro q q1 q2
              rw [f5.2 q q1 q2, hs_o (by decide), hs_o (by decide), hs_o (by decide), hs_o (by decide)]; exact f0.2 q q1 q2
            · intro x q hx hq
              rw [f5.1 x hx, hs_k2 hq, hs_k2 hq, hs_k2 hq, hs_k2 hq, f0.1 x hx]
def PTR (h : jH) (S : jH) (n : Nat) : Prop := ∀ q, q < n → h 408 q = S 1 q ∧ h 409 q = S 2 q ∧ h 410 q = S 3 q ∧ h 411 q = S 4 q
theorem PTR.of {h h' S : jH} {n : Nat} (k : PTR h S n) (e : ∀ x, 408 ≤ x → x ≤ 411 → h' x = h x) : PTR h' S n := fun q hq => by rw [e 408 (by omega) (by omega), e 409 (by omega) (by omega), e 410 (by omega) (by omega), e 411 (by omega) (by omega)]; exact k q hq
def FP9 (h h' : jH) : Prop := (∀ x, (x < 388 ∨ (388 < x ∧ x < 408) ∨ 411 < x) → h' x = h x) ∧ ∀ q, q ≠ 32 → q ≠ 33 → q ≠ 38 → h' 388 q = h 388 q
theorem FP9.trans {a b c : jH} (h1 : FP9 a b) (h2 : FP9 b c) : FP9 a c := ⟨fun x hx => (h2.1 x hx).trans (h1.1 x hx), fun q a1 a2 a3 => (h2.2 q a1 a2 a3).trans (h1.2 q a1 a2 a3)⟩
theorem FRd.p9 {a b : jH} (h1 : FRd a b) : FP9 a b := ⟨fun x hx => h1.1 x (by omega), fun q a1 a2 _ => h1.2 q a1 a2⟩
set_option maxRecDepth 20000 in
set_option maxHeartbeats 1000000 in
theorem r_rpb (l : Launch) (mem : jH) (B : Nat → Int) (N p : Nat) (f : Int) (k9 : RDR mem B N p f) (f9 : f ≠ 0) (many y2 spots ns k : Int) (mb : -100000 ≤ many ∧ many ≤ 100000) (kb : -100000 ≤ k ∧ k ≤ 100000) (hk : mem 388 38 = k) (sb : -100000 ≤ spots ∧ spots ≤ 100000) (hns : mem 388 36 = ns) (nb : -100000 ≤ ns ∧ ns ≤ 100000) (P : Option Value → jH → Prop) (hP : ∀ m2, RDR m2 B N p f → FRd mem m2 → P none m2) : jT l 279 9 [some (.ref 388), some (.int (jI (many))), some (.int (jI (y2))), some (.int (jI (spots)))] [] mem P := by
  have k8 := k9.2.2.2.2.2.2.2
  refine tl_aload_n rfl rfl ?_
  refine tl_geti (c := 12) (k9 := 38) rfl rfl rfl ?_
  rw [hk]
  refine tl_iload_n rfl rfl ?_
  refine tl_icmp_ge (tgt := 96) rfl rfl ⟨by omega, by omega⟩ ⟨by omega, by omega⟩ (fun c1 => ?_) (fun c1 => ?_)
  · skip
    refine tl_aload_n rfl rfl ?_
    refine tl_iload_n rfl rfl ?_
    show jT _ _ 98 _ _ _ _
    refine tl_aload_n rfl rfl ?_
    refine tl_geti (c := 12) (k9 := 36) rfl rfl rfl ?_
    rw [hns]
    refine tl_icmp_ge (tgt := 109) rfl rfl ⟨by omega, by omega⟩ ⟨by omega, by omega⟩ (fun c2 => ?_) (fun c2 => ?_)
    · skip
      refine tl_iconst rfl ?_
      refine tl_iconst rfl ?_
      refine tl_v2v (c9 := 12) (r_fails l mem B N p f k9 _ 5 (by omega) (by omega) (by omega)) rfl rfl rfl rfl rfl (Nat.le_of_ble_eq_true rfl) (fun h5 p5 => ?_)
      obtain ⟨k5, f5⟩ := p5
      refine tl_ret rfl ?_
      -- leaf 0 at 114
      rw [if_neg (by omega)] at k5
      exact hP _ k5 f5
    · show jT _ _ 105 _ _ _ _
      show jT _ _ 105 _ _ _ _
      refine tl_iconst rfl ?_
      refine tl_goto (tgt := 110) rfl rfl ?_
      refine tl_iconst rfl ?_
      refine tl_v2v (c9 := 12) (r_fails l mem B N p f k9 _ 5 (by omega) (by omega) (by omega)) rfl rfl rfl rfl rfl (Nat.le_of_ble_eq_true rfl) (fun h5 p5 => ?_)
      obtain ⟨k5, f5⟩ := p5
      refine tl_ret rfl ?_
      -- leaf 1 at 114
      rw [if_neg (by omega)] at k5
      exact hP _ k5 f5
  · show jT _ _ 17 _ _ _ _
    refine tl_aload_n rfl rfl ?_
    refine tl_geti (c := 12) (k9 := 33) rfl rfl rfl ?_
    rw [k9.2.2.1]
    show jT _ _ 21 _ _ _ _
    refine tl_if_ne (tgt := 96) rfl rfl ⟨by omega, by omega⟩ (fun c3 => ?_) (fun c3 => ?_)
    · skip
      refine tl_aload_n rfl rfl ?_
      refine tl_iload_n rfl rfl ?_
      refine tl_aload_n rfl rfl ?_
      refine tl_geti (c := 12) (k9 := 36) rfl rfl rfl ?_
      rw [hns]
      refine tl_icmp_ge (tgt := 109) rfl rfl ⟨by omega, by omega⟩ ⟨by omega, by omega⟩ (fun c4 => ?_) (fun c4 => ?_)
      · skip
        refine tl_iconst rfl ?_
        show jT _ _ 110 _ _ _ _
        refine tl_iconst rfl ?_
        refine tl_v2v (c9 := 12) (r_fails l mem B N p f k9 _ 5 (by omega) (by omega) (by omega)) rfl rfl rfl rfl rfl (Nat.le_of_ble_eq_true rfl) (fun h5 p5 => ?_)
        obtain ⟨k5, f5⟩ := p5
        refine tl_ret rfl ?_
        -- leaf 2 at 114
        rw [if_neg (by omega)] at k5
        exact hP _ k5 f5
      · show jT _ _ 105 _ _ _ _
        refine tl_iconst rfl ?_
        refine tl_goto (tgt := 110) rfl rfl ?_
        refine tl_iconst rfl ?_
        refine tl_v2v (c9 := 12) (r_fails l mem B N p f k9 _ 5 (by omega) (by omega) (by omega)) rfl rfl rfl rfl rfl (Nat.le_of_ble_eq_true rfl) (fun h5 p5 => ?_)
        obtain ⟨k5, f5⟩ := p5
        show jT _ _ 114 _ _ _ _
        refine tl_ret rfl ?_
        -- leaf 3 at 114
        rw [if_neg (by omega)] at k5
        exact hP _ k5 f5
    · show jT _ _ 24 _ _ _ _
      show jT _ _ 24 _ _ _ _
      -- leaf 4 at 24
      exfalso; omega
set_option maxRecDepth 20000 in
set_option maxHeartbeats 1000000 in
theorem r_rps_lp (l : Launch) (h : jH) (B : Nat → Int) (N p0 np : Nat) (os ns : Int) (hB : BB B N) (hp : p0 ≤ N) (n298 : N ≤ 298) (o0 : 0 ≤ os ∧ os ≤ 64) (n0 : 0 ≤ ns ∧ ns ≤ 64) (np0 : np ≤ 16383) (P : Option Value → jH → Prop) (hP : ∀ mem, ((∃ p2, RDR mem B N p2 (ptF B N os ns p0 np) ∧ (ptF B N os ns p0 np = 0 → (p2 : Int) = ptS B N os ns p0 np 0 1)) ∧ (ptF B N os ns p0 np = 0 → mem 388 38 = (np : Int) ∧ PTR mem (ptS B N os ns p0 np) np) ∧ FP9 h mem) → P none mem) : ∀ (m : Nat) (k : Nat) (mem : jH), np - k < m → (k ≤ np ∧ (ptS B N os ns p0 k) 0 0 = 0 ∧ RDR mem B N ((ptS B N os ns p0 k) 0 1).toNat 0 ∧ PTR mem (ptS B N os ns p0 k) k ∧ (mem 388 38 = (k : Int) ∧ mem 388 34 = os ∧ mem 388 36 = ns) ∧ FP9 h mem) → jT l 279 9 [some (.ref 388), some (.int (jI ((np : Int)))), some (.int (jI ((ptS B N os ns p0 k) 0 2))), some (.int (jI ((ptS B N os ns p0 k) 0 3)))] [] mem P := by
  intro m
  induction m with
  | zero => intro k mem hk; omega
  | succ m ih =>
    intro k mem hk hi
    obtain ⟨i0, i1, i2, i4, ⟨i7, i5, i6⟩, fr⟩ := hi
    have I := ptS_I hB hp o0.1 n0.1 k i1
    obtain ⟨⟨a1, a2⟩, a3, a4, a5, a6, a7, a8⟩ := I
    clear a6 a7 a8 a5
    refine tl_aload_n rfl rfl ?_
    refine tl_geti (c := 12) (k9 := 38) rfl rfl rfl ?_
    rw [i7]
    refine tl_iload_n rfl rfl ?_
    refine tl_icmp_ge (tgt := 96) rfl rfl ⟨by omega, by omega⟩ ⟨by omega, by omega⟩ (fun c1 => ?_) (fun c1 => ?_)
    · skip
      refine tl_aload_n rfl rfl ?_
      refine tl_iload_n rfl rfl ?_
      show jT _ _ 98 _ _ _ _
      refine tl_aload_n rfl rfl ?_
      refine tl_geti (c := 12) (k9 := 36) rfl rfl rfl ?_
      rw [i6]
      refine tl_icmp_ge (tgt := 109) rfl rfl ⟨by omega, by omega⟩ ⟨by omega, by omega⟩ (fun c2 => ?_) (fun c2 => ?_)
      · skip
        refine tl_iconst rfl ?_
        refine tl_iconst rfl ?_
        refine tl_v2v (c9 := 12) (r_fails l mem B N ((ptS B N os ns p0 k) 0 1).toNat 0 i2 _ 5 (by omega) (by omega) (by omega)) rfl rfl rfl rfl rfl (Nat.le_of_ble_eq_true rfl) (fun h5 p5 => ?_)
        obtain ⟨k5, f5⟩ := p5
        refine tl_ret rfl ?_
        -- leaf 0 at 114
        first
          | (exfalso; omega)
          | (have e : np = k := by omega
             subst e
             have ef : ptF B N os ns p0 np = (if ptS B N os ns p0 np 0 3 < ns then 5 else 0) := by rw [ptF, if_pos i1]
             refine hP _ ⟨⟨_, by rw [ef]; first | (rw [if_pos (by omega)] at k5 ⊢; exact k5) | (rw [if_neg (by omega)] at k5 ⊢; exact k5), fun _ => by omega⟩, fun _ => ⟨by rw [f5.2 38 (by decide) (by decide)]; exact i7, i4.of (fun x x1 x2 => f5.1 x (by omega))⟩, fr.trans f5.p9⟩)
      · show jT _ _ 105 _ _ _ _
        show jT _ _ 105 _ _ _ _
        refine tl_iconst rfl ?_
        refine tl_goto (tgt := 110) rfl rfl ?_
        refine tl_iconst rfl ?_
        refine tl_v2v (c9 := 12) (r_fails l mem B N ((ptS B N os ns p0 k) 0 1).toNat 0 i2 _ 5 (by omega) (by omega) (by omega)) rfl rfl rfl rfl rfl (Nat.le_of_ble_eq_true rfl) (fun h5 p5 => ?_)
        obtain ⟨k5, f5⟩ := p5
        refine tl_ret rfl ?_
        -- leaf 1 at 114
        first
          | (exfalso; omega)
          | (have e : np = k := by omega
             subst e
             have ef : ptF B N os ns p0 np = (if ptS B N os ns p0 np 0 3 < ns then 5 else 0) := by rw [ptF, if_pos i1]
             refine hP _ ⟨⟨_, by rw [ef]; first | (rw [if_pos (by omega)] at k5 ⊢; exact k5) | (rw [if_neg (by omega)] at k5 ⊢; exact k5), fun _ => by omega⟩, fun _ => ⟨by rw [f5.2 38 (by decide) (by decide)]; exact i7, i4.of (fun x x1 x2 => f5.1 x (by omega))⟩, fr.trans f5.p9⟩)
    · show jT _ _ 17 _ _ _ _
      refine tl_aload_n rfl rfl ?_
      refine tl_geti (c := 12) (k9 := 33) rfl rfl rfl ?_
      rw [i2.2.2.1]
      show jT _ _ 21 _ _ _ _
      refine tl_if_ne (tgt := 96) rfl rfl ⟨by omega, by omega⟩ (fun c3 => ?_) (fun c3 => ?_)
      · skip
        refine tl_aload_n rfl rfl ?_
        refine tl_iload_n rfl rfl ?_
        refine tl_aload_n rfl rfl ?_
        refine tl_geti (c := 12) (k9 := 36) rfl rfl rfl ?_
        rw [i6]
        refine tl_icmp_ge (tgt := 109) rfl rfl ⟨by omega, by omega⟩ ⟨by omega, by omega⟩ (fun c4 => ?_) (fun c4 => ?_)
        · skip
          refine tl_iconst rfl ?_
          show jT _ _ 110 _ _ _ _
          refine tl_iconst rfl ?_
          refine tl_v2v (c9 := 12) (r_fails l mem B N ((ptS B N os ns p0 k) 0 1).toNat 0 i2 _ 5 (by omega) (by omega) (by omega)) rfl rfl rfl rfl rfl (Nat.le_of_ble_eq_true rfl) (fun h5 p5 => ?_)
          obtain ⟨k5, f5⟩ := p5
          refine tl_ret rfl ?_
          -- leaf 2 at 114
          first
            | (exfalso; omega)
            | (have e : np = k := by omega
               subst e
               have ef : ptF B N os ns p0 np = (if ptS B N os ns p0 np 0 3 < ns then 5 else 0) := by rw [ptF, if_pos i1]
               refine hP _ ⟨⟨_, by rw [ef]; first | (rw [if_pos (by omega)] at k5 ⊢; exact k5) | (rw [if_neg (by omega)] at k5 ⊢; exact k5), fun _ => by omega⟩, fun _ => ⟨by rw [f5.2 38 (by decide) (by decide)]; exact i7, i4.of (fun x x1 x2 => f5.1 x (by omega))⟩, fr.trans f5.p9⟩)
        · show jT _ _ 105 _ _ _ _
          refine tl_iconst rfl ?_
          refine tl_goto (tgt := 110) rfl rfl ?_
          refine tl_iconst rfl ?_
          refine tl_v2v (c9 := 12) (r_fails l mem B N ((ptS B N os ns p0 k) 0 1).toNat 0 i2 _ 5 (by omega) (by omega) (by omega)) rfl rfl rfl rfl rfl (Nat.le_of_ble_eq_true rfl) (fun h5 p5 => ?_)
          obtain ⟨k5, f5⟩ := p5
          show jT _ _ 114 _ _ _ _
          refine tl_ret rfl ?_
          -- leaf 3 at 114
          first
            | (exfalso; omega)
            | (have e : np = k := by omega
               subst e
               have ef : ptF B N os ns p0 np = (if ptS B N os ns p0 np 0 3 < ns then 5 else 0) := by rw [ptF, if_pos i1]
               refine hP _ ⟨⟨_, by rw [ef]; first | (rw [if_pos (by omega)] at k5 ⊢; exact k5) | (rw [if_neg (by omega)] at k5 ⊢; exact k5), fun _ => by omega⟩, fun _ => ⟨by rw [f5.2 38 (by decide) (by decide)]; exact i7, i4.of (fun x x1 x2 => f5.1 x (by omega))⟩, fr.trans f5.p9⟩)
      · show jT _ _ 24 _ _ _ _
        refine tl_aload_n rfl rfl ?_
        refine tl_aload_n rfl rfl ?_
        refine tl_geti (c := 12) (k9 := 38) rfl rfl rfl ?_
        rw [i7]
        refine tl_iload_n rfl rfl ?_
        refine tl_iload_n rfl rfl ?_
        refine tl_v3v (c9 := 12) (r_readPart l mem B N ((ptS B N os ns p0 k) 0 1).toNat i2 k (by omega) ((ptS B N os ns p0 k) 0 2) ((ptS B N os ns p0 k) 0 3) os ns (by omega) (by omega) i5 i6 o0 n0) rfl rfl rfl rfl rfl (Nat.le_of_ble_eq_true rfl) (fun h5 p5 => ?_)
        show jT _ _ 34 _ _ _ _
        -- leaf 4 at 34
        have o5 := i7
        obtain ⟨p51, p52, g1, g2, g3⟩ := p5
        have hk5 : h5 388 38 = (k : Int) := by rw [g2 38 (by decide) (by decide)]; exact i7
        have hn5 : h5 388 36 = ns := by rw [g2 36 (by decide) (by decide)]; exact i6
        have ho5 : h5 388 34 = os := by rw [g2 34 (by decide) (by decide)]; exact i5
        have fr5 : FP9 h h5 := fr.trans ⟨fun x hx => g1 x hx, fun q q1 q2 _ => g2 q q1 q2⟩
        by_cases x3 : (pA B N ((ptS B N os ns p0 k) 0 1).toNat).1 < 0 ∨ (pB B N ((ptS B N os ns p0 k) 0 1).toNat).1 < 0 ∨ (pC B N ((ptS B N os ns p0 k) 0 1).toNat).1 < 0
        · obtain ⟨p2, k5⟩ := p51 x3
          have ep : ptS B N os ns p0 (k + 1) = hs (ptS B N os ns p0 k) 0 0 3 := by rw [ptS, if_pos i1, pt1_a x3]
          have e0 : ptS B N os ns p0 (k + 1) 0 0 = 3 := by rw [ep, hs_s]
          have en : ptS B N os ns p0 np = ptS B N os ns p0 (k + 1) := by have := ptS_st (by rw [e0]; decide : ptS B N os ns p0 (k + 1) 0 0 ≠ 0) (np - (k + 1)); rwa [show k + 1 + (np - (k + 1)) = np by omega] at this
          have ef : ptF B N os ns p0 np = 3 := by rw [ptF, en, e0, if_neg (by decide)]
          refine tl_aload_n rfl rfl ?_
          refine tl_geti (c := 12) (k9 := 33) rfl rfl rfl ?_
          rw [k5.2.2.1]
          refine tl_if_ne (tgt := 9) rfl rfl ⟨by omega, by omega⟩ (fun c1 => ?_) (fun c1 => ?_)
          · skip
            show jT _ _ 9 _ _ _ _
            -- leaf 0 at 9
            refine r_rpb l h5 B N p2 3 k5 (by decide) _ _ _ ns k (by omega) (by omega) hk5 (by omega) hn5 (by omega) _ (fun m2 k6 f6 => hP _ ⟨⟨p2, by rw [ef]; exact k6, fun w => by rw [ef] at w; exact absurd w (by decide)⟩, fun w => by rw [ef] at w; exact absurd w (by decide), fr5.trans f6.p9⟩)
          · show jT _ _ 41 _ _ _ _
            exfalso; omega
        obtain ⟨k5, w1, w2, w3, w4⟩ := p52 x3
        by_cases x5 : ((ptS B N os ns p0 k) 0 2 + sk9 (pA B N ((ptS B N os ns p0 k) 0 1).toNat).1) < 0 ∨ os < ((ptS B N os ns p0 k) 0 2 + sk9 (pA B N ((ptS B N os ns p0 k) 0 1).toNat).1) + (pB B N ((ptS B N os ns p0 k) 0 1).toNat).1 ∨ ns < (ptS B N os ns p0 k) 0 3 + (pB B N ((ptS B N os ns p0 k) 0 1).toNat).1 + (pC B N ((ptS B N os ns p0 k) 0 1).toNat).1
        · rw [if_pos x5] at k5
          have ep : ptS B N os ns p0 (k + 1) = hs (ptS B N os ns p0 k) 0 0 5 := by rw [ptS, if_pos i1, pt1_b x3 x5]
          have e0 : ptS B N os ns p0 (k + 1) 0 0 = 5 := by rw [ep, hs_s]
          have en : ptS B N os ns p0 np = ptS B N os ns p0 (k + 1) := by have := ptS_st (by rw [e0]; decide : ptS B N os ns p0 (k + 1) 0 0 ≠ 0) (np - (k + 1)); rwa [show k + 1 + (np - (k + 1)) = np by omega] at this
          have ef : ptF B N os ns p0 np = 5 := by rw [ptF, en, e0, if_neg (by decide)]
          refine tl_aload_n rfl rfl ?_
          refine tl_geti (c := 12) (k9 := 33) rfl rfl rfl ?_
          rw [k5.2.2.1]
          refine tl_if_ne (tgt := 9) rfl rfl ⟨by omega, by omega⟩ (fun c1 => ?_) (fun c1 => ?_)
          · skip
            show jT _ _ 9 _ _ _ _
            -- leaf 0 at 9
            refine r_rpb l h5 B N _ 5 k5 (by decide) _ _ _ ns k (by omega) (by omega) hk5 (by omega) hn5 (by omega) _ (fun m2 k6 f6 => hP _ ⟨⟨_, by rw [ef]; exact k6, fun w => by rw [ef] at w; exact absurd w (by decide)⟩, fun w => by rw [ef] at w; exact absurd w (by decide), fr5.trans f6.p9⟩)
          · show jT _ _ 41 _ _ _ _
            exfalso; omega
        rw [if_neg x5] at k5
        refine tl_aload_n rfl rfl ?_
        refine tl_geti (c := 12) (k9 := 33) rfl rfl rfl ?_
        rw [k5.2.2.1]
        refine tl_if_ne (tgt := 9) rfl rfl ⟨by omega, by omega⟩ (fun c1 => ?_) (fun c1 => ?_)
        · skip
          exfalso; omega
        · show jT _ _ 41 _ _ _ _
          refine tl_aload_n rfl rfl ?_
          refine tl_getr (c := 12) (k9 := 39) (b := 408) rfl rfl rfl rfl ?_
          refine tl_aload_n rfl rfl ?_
          show jT _ _ 46 _ _ _ _
          refine tl_geti (c := 12) (k9 := 38) rfl rfl rfl ?_
          rw [hk5]
          refine tl_iald (n := 100) rfl rfl rfl (by omega) (by omega) ?_
          rw [Int.toNat_natCast, w1]
          refine tl_aload_n rfl rfl ?_
          refine tl_getr (c := 12) (k9 := 40) (b := 409) rfl rfl rfl rfl ?_
          refine tl_aload_n rfl rfl ?_
          refine tl_geti (c := 12) (k9 := 38) rfl rfl rfl ?_
          rw [hk5]
          refine tl_iald (n := 100) rfl rfl rfl (by omega) (by omega) ?_
          rw [Int.toNat_natCast, w2]
          show jT _ _ 59 _ _ _ _
          refine tl_iadd rfl ?_
          refine tl_istore_n rfl (Nat.le_of_ble_eq_true rfl) rfl ?_
          refine tl_iload_n rfl rfl ?_
          refine tl_aload_n rfl rfl ?_
          refine tl_getr (c := 12) (k9 := 40) (b := 409) rfl rfl rfl rfl ?_
          refine tl_aload_n rfl rfl ?_
          refine tl_geti (c := 12) (k9 := 38) rfl rfl rfl ?_
          rw [hk5]
          show jT _ _ 70 _ _ _ _
          refine tl_iald (n := 100) rfl rfl rfl (by omega) (by omega) ?_
          rw [Int.toNat_natCast, w2]
          refine tl_aload_n rfl rfl ?_
          refine tl_getr (c := 12) (k9 := 41) (b := 410) rfl rfl rfl rfl ?_
          refine tl_aload_n rfl rfl ?_
          refine tl_geti (c := 12) (k9 := 38) rfl rfl rfl ?_
          rw [hk5]
          refine tl_iald (n := 100) rfl rfl rfl (by omega) (by omega) ?_
          rw [Int.toNat_natCast, w3]
          refine tl_iadd rfl ?_
          show jT _ _ 81 _ _ _ _
          refine tl_iadd rfl ?_
          refine tl_istore_n rfl (Nat.le_of_ble_eq_true rfl) rfl ?_
          refine tl_aload_n rfl rfl ?_
          refine tl_dup rfl rfl ?_
          refine tl_geti (c := 12) (k9 := 38) rfl rfl rfl ?_
          rw [hk5]
          refine tl_iconst rfl ?_
          refine tl_iadd rfl ?_
          show jT _ _ 90 _ _ _ _
          refine tl_puti (c := 12) (k9 := 38) rfl rfl rfl rfl ?_
          refine tl_goto (tgt := 9) rfl rfl ?_
          show jT _ _ 9 _ _ _ _
          -- leaf 0 at 9
          have ep : ptS B N os ns p0 (k + 1) = ptU k (pC B N ((ptS B N os ns p0 k) 0 1).toNat).2 ((ptS B N os ns p0 k) 0 2 + sk9 (pA B N ((ptS B N os ns p0 k) 0 1).toNat).1) (pB B N ((ptS B N os ns p0 k) 0 1).toNat).1 (pC B N ((ptS B N os ns p0 k) 0 1).toNat).1 (ptS B N os ns p0 k) := by rw [ptS, if_pos i1, pt1_c x3 x5]
          have u0 : ptS B N os ns p0 (k + 1) 0 0 = 0 := by rw [ep]; exact i1
          have u1 : ptS B N os ns p0 (k + 1) 0 1 = ((pC B N ((ptS B N os ns p0 k) 0 1).toNat).2 : Int) := by rw [ep]; rfl
          have u2 : ptS B N os ns p0 (k + 1) 0 2 = ((ptS B N os ns p0 k) 0 2 + sk9 (pA B N ((ptS B N os ns p0 k) 0 1).toNat).1) + (pB B N ((ptS B N os ns p0 k) 0 1).toNat).1 := by rw [ep]; rfl
          have u3 : ptS B N os ns p0 (k + 1) 0 3 = (ptS B N os ns p0 k) 0 3 + (pB B N ((ptS B N os ns p0 k) 0 1).toNat).1 + (pC B N ((ptS B N os ns p0 k) 0 1).toNat).1 := by rw [ep]; rfl
          refine jT.loc ?_ (ih (k + 1) (hs h5 388 38 ((k : Int) + 1)) (by omega) ⟨by omega, u0, ?_, ?_, ⟨by rw [hs_s]; omega, by rw [hs_k (by decide)]; exact ho5, by rw [hs_k (by decide)]; exact hn5⟩, fr5.trans ⟨fun x hx => hs_O (by omega), fun q _ _ q3 => hs_k q3⟩⟩)
          · rw [u2, u3, show (ptS B N os ns p0 k) 0 3 + ((pB B N ((ptS B N os ns p0 k) 0 1).toNat).1 + (pC B N ((ptS B N os ns p0 k) 0 1).toNat).1) = (ptS B N os ns p0 k) 0 3 + (pB B N ((ptS B N os ns p0 k) 0 1).toNat).1 + (pC B N ((ptS B N os ns p0 k) 0 1).toNat).1 by omega]
            rfl
          · rw [u1, Int.toNat_natCast]
            exact k5.at9 (fun q hq => hs_k (by omega)) (hs_O (by decide))
          · intro q hq
            rw [ep]
            rw [hs_O (by decide), hs_O (by decide), hs_O (by decide), hs_O (by decide)]
            by_cases cq : q = k
            · subst cq
              refine ⟨?_, ?_, ?_, ?_⟩
              · rw [w1]; unfold ptU; rw [if_neg (by decide), if_pos rfl, if_pos rfl]
              · rw [w2]; unfold ptU; rw [if_neg (by decide), if_pos rfl, if_neg (by decide), if_pos rfl]
              · rw [w3]; unfold ptU; rw [if_neg (by decide), if_pos rfl, if_neg (by decide), if_neg (by decide), if_pos rfl]
              · rw [w4]; unfold ptU; rw [if_neg (by decide), if_pos rfl, if_neg (by decide), if_neg (by decide), if_neg (by decide), if_pos rfl]
            · have o := i4 q (by omega)
              have v1 : ∀ r, r ≠ 0 → ptU k (pC B N ((ptS B N os ns p0 k) 0 1).toNat).2 ((ptS B N os ns p0 k) 0 2 + sk9 (pA B N ((ptS B N os ns p0 k) 0 1).toNat).1) (pB B N ((ptS B N os ns p0 k) 0 1).toNat).1 (pC B N ((ptS B N os ns p0 k) 0 1).toNat).1 (ptS B N os ns p0 k) r q = (ptS B N os ns p0 k) r q := fun r hr => by unfold ptU; rw [if_neg hr, if_neg cq]
              rw [v1 1 (by decide), v1 2 (by decide), v1 3 (by decide), v1 4 (by decide), g3 408 q (by decide) cq, g3 409 q (by decide) cq, g3 410 q (by decide) cq, g3 411 q (by decide) cq]
              exact o
set_option maxRecDepth 20000 in
set_option maxHeartbeats 1000000 in
theorem r_readParts (l : Launch) (h : jH) (B : Nat → Int) (N p0 np : Nat) (os ns : Int) (hB : BB B N) (hp : p0 ≤ N) (n298 : N ≤ 298) (o0 : 0 ≤ os ∧ os ≤ 64) (n0 : 0 ≤ ns ∧ ns ≤ 64) (np0 : np ≤ 16383) (k0 : RDR h B N p0 0) (hb : h 388 34 = os ∧ h 388 36 = ns) : cV l 279 [.ref 388, .int (jI (np : Int))] h (fun h' => ((∃ p2, RDR h' B N p2 (ptF B N os ns p0 np) ∧ (ptF B N os ns p0 np = 0 → (p2 : Int) = ptS B N os ns p0 np 0 1)) ∧ (ptF B N os ns p0 np = 0 → h' 388 38 = (np : Int) ∧ PTR h' (ptS B N os ns p0 np) np) ∧ FP9 h h')) := by
  refine cV.of rfl rfl ?_
  refine tl_aload_n rfl rfl ?_
  refine tl_iconst rfl ?_
  refine tl_puti (c := 12) (k9 := 38) rfl rfl rfl rfl ?_
  refine tl_iconst rfl ?_
  refine tl_istore_n rfl (Nat.le_of_ble_eq_true rfl) rfl ?_
  refine tl_iconst rfl ?_
  show jT _ _ 8 _ _ _ _
  refine tl_istore_n rfl (Nat.le_of_ble_eq_true rfl) rfl ?_
  show jT _ _ 9 _ _ _ _
  -- leaf 0 at 9
  refine r_rps_lp l h B N p0 np os ns hB hp n298 o0 n0 np0 _ (fun mem hz => ⟨rfl, hz⟩) _ 0 _ (Nat.lt_succ_self _) ⟨Nat.zero_le _, rfl, ?_, fun q hq => by omega, ⟨by rw [hs_s]; rfl, by rw [hs_k (by decide)]; exact hb.1, by rw [hs_k (by decide)]; exact hb.2⟩, fun x hx => hs_O (by omega), fun q _ _ q3 => hs_k q3⟩
  rw [show (ptS B N os ns p0 0 0 1).toNat = p0 from Int.toNat_natCast _]
  exact k0.at9 (fun q hq => hs_k (by omega)) (hs_O (by decide))
set_option maxRecDepth 20000 in
set_option maxHeartbeats 1000000 in
theorem r_readPartsZ (l : Launch) (h : jH) (B : Nat → Int) (N p : Nat) (f : Int) (k9 : RDR h B N p f) (f9 : f ≠ 0) (many ns : Int) (mb : -100000 ≤ many ∧ many ≤ 100000) (hns : h 388 36 = ns) (nb : -100000 ≤ ns ∧ ns ≤ 100000) : cV l 279 [.ref 388, .int (jI many)] h (fun h' => RDR h' B N p f ∧ FP9 h h') := by
  refine cV.of rfl rfl ?_
  refine tl_aload_n rfl rfl ?_
  refine tl_iconst rfl ?_
  refine tl_puti (c := 12) (k9 := 38) rfl rfl rfl rfl ?_
  refine tl_iconst rfl ?_
  refine tl_istore_n rfl (Nat.le_of_ble_eq_true rfl) rfl ?_
  refine tl_iconst rfl ?_
  show jT _ _ 8 _ _ _ _
  refine tl_istore_n rfl (Nat.le_of_ble_eq_true rfl) rfl ?_
  show jT _ _ 9 _ _ _ _
  -- leaf 0 at 9
  refine r_rpb l _ B N p f (k9.at9 (fun q hq => hs_k (by omega)) (hs_O (by decide))) f9 _ _ _ ns 0 mb (by omega) hs_s (by omega) (by rw [hs_k (by decide)]; exact hns) nb _ (fun m2 k6 f6 => ⟨rfl, k6, FP9.trans ⟨fun x hx => hs_O (by omega), fun q _ _ q3 => hs_k q3⟩ f6.p9⟩)
