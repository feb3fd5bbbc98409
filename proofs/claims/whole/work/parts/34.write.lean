/-! write: the run goes on -/
/-- the next write of the run -/
def Rwv (R : Nat → Int) : Int := if R (1171 + 3 * (R 1169).toNat) = -1 then R (1172 + 3 * (R 1169).toNat) else (R (6 + R (1171 + 3 * (R 1169).toNat)).toNat + R (1172 + 3 * (R 1169).toNat)) % 256
def Rw1 (R : Nat → Int) : Nat → Int := fun i => if i = 1169 then R 1169 + 1 else if i = (6 + R (1170 + 3 * (R 1169).toNat)).toNat then Rwv R else R i
def Rwr (R : Nat → Int) : Nat → Nat → Int
  | 0 => R
  | k + 1 => Rw1 (Rwr R k)
def Rcl (R : Nat → Int) : Nat → Int := fun i => if R 1169 = R 1168 then (if i = 1167 then 0 else if i = 5 then R 1168 else R i) else R i
def RWI (R : Nat → Int) : Prop := 0 ≤ R 1169 ∧ R 1169 ≤ R 1168 ∧ R 1168 ≤ 64 ∧ R 1168 ≤ R 5 ∧ R 5 ≤ 64 ∧ (∀ i : Nat, (i : Int) < R 5 → byt (R (6 + i))) ∧ ∀ i : Nat, (i : Int) < R 1168 → 0 ≤ R (1170 + 3 * i) ∧ R (1170 + 3 * i) < R 5 ∧ -1 ≤ R (1171 + 3 * i) ∧ R (1171 + 3 * i) < R 5 ∧ byt (R (1172 + 3 * i))
theorem Rw1_o {R : Nat → Int} (hR : RWI R) (lt : R 1169 < R 1168) {i : Nat} (hi : i < 6 ∨ 70 ≤ i) (h9 : i ≠ 1169) : Rw1 R i = R i := by
  obtain ⟨r1, r2, r3, r4, r5, r6, r7⟩ := hR
  have := r7 (R 1169).toNat (by omega)
  rw [Rw1, if_neg h9, if_neg (by omega)]
theorem Rwv_b {R : Nat → Int} (hR : RWI R) (lt : R 1169 < R 1168) : byt (Rwv R) := by
  obtain ⟨r1, r2, r3, r4, r5, r6, r7⟩ := hR
  have := r7 (R 1169).toNat (by omega)
  rw [Rwv]
  split
  · exact this.2.2.2.2
  · exact ⟨by omega, by omega⟩
theorem RWI.step {R : Nat → Int} (hR : RWI R) (lt : R 1169 < R 1168) : RWI (Rw1 R) := by
  have hv := Rwv_b hR lt
  have e9 : Rw1 R 1169 = R 1169 + 1 := by rw [Rw1, if_pos rfl]
  have e8 := Rw1_o hR lt (i := 1168) (by omega) (by omega)
  have e5 := Rw1_o hR lt (i := 5) (by omega) (by omega)
  have hR' := hR
  obtain ⟨r1, r2, r3, r4, r5, r6, r7⟩ := hR
  refine ⟨by omega, by omega, by omega, by omega, by omega, fun i hi => ?_, fun i hi => ?_⟩
  · rw [Rw1, if_neg (by omega)]
    split
    · exact hv
    · exact r6 i (by omega)
  · rw [e8] at hi
    rw [e5, Rw1_o hR' lt (i := 1170 + 3 * i) (by omega) (by omega), Rw1_o hR' lt (i := 1171 + 3 * i) (by omega) (by omega), Rw1_o hR' lt (i := 1172 + 3 * i) (by omega) (by omega)]
    exact r7 i hi
theorem Rwr_i {R : Nat → Int} (hR : RWI R) : ∀ k : Nat, (k : Int) ≤ R 1168 - R 1169 → RWI (Rwr R k) ∧ Rwr R k 1169 = R 1169 + k ∧ ∀ i : Nat, (i < 6 ∨ 70 ≤ i) → i ≠ 1169 → Rwr R k i = R i := by
  intro k
  induction k with
  | zero => intro _; exact ⟨hR, by rw [Rwr]; omega, fun _ _ _ => rfl⟩
  | succ k ih =>
    intro hk
    obtain ⟨a, b, c⟩ := ih (by omega)
    have lt : Rwr R k 1169 < Rwr R k 1168 := by rw [b, c 1168 (by omega) (by omega)]; omega
    refine ⟨a.step lt, ?_, fun i hi h9 => ?_⟩
    · rw [Rwr, Rw1, if_pos rfl, b]; omega
    · rw [Rwr, Rw1_o a lt hi h9]; exact c i hi h9
theorem RS.wi {h : jH} {R : Nat → Int} (hR : RS h 1 R) (h7 : R 1167 = 1) : RWI R := by
  obtain ⟨a, b, c, d1, d2, d3, d4, d5⟩ := hR
  obtain ⟨x1, x2, x3, x4, x5, x6, x7⟩ := d5 h7
  have hF := a 0 (by decide)
  obtain ⟨f1, f2, f3, f4⟩ := hF
  refine ⟨x1, by omega, x3, x6, f3, fun i hi => (f4 i hi).2, fun i hi => ?_⟩
  obtain ⟨y1, y2, y3, y4, y5, y6, y7, y8, y9⟩ := x7 i hi
  exact ⟨y6, y7, y8, y9, by omega, by omega⟩
def nwr (R : Nat → Int) (n : Int) : Int := min n (R 1168 - R 1169)
def Dwrite (s : jH) (n : Int) : Int × jH := if n < 1 then dT s (-1) else if s 390 1167 = 1 then dT (hw (Trem s 13) 390 (Rcl (Rwr (s 390) (nwr (s 390) n).toNat))) (s 390 1168 - s 390 1169 - nwr (s 390) n) else dT s (-4)
theorem Ag.write {s s' : jH} (h : Ag s s') (n : Int) : AgD (Dwrite s n) (Dwrite s' n) := by
  unfold Dwrite
  rw [h 390 (by decide)]
  split
  · exact h.d _
  · split
    · exact ((h.rem 13).w1 rfl).d _
    · exact h.d _
set_option maxRecDepth 20000 in
set_option maxHeartbeats 1000000 in
theorem r_closeRun (l : Launch) (h : jH) (h8 : jr (h 390 1168)) (h9 : jr (h 390 1169)) : cV l 309 [.ref 388] h (fun h' => h' = hw h 390 (Rcl (h 390))) := by
  have x1 := h8.1
  have x2 := h8.2
  have x3 := h9.1
  have x4 := h9.2
  refine cV.of rfl rfl ?_
  refine tl_aload_n rfl rfl ?_
  refine tl_getr (c := 12) (k9 := 3) (b := 390) rfl rfl rfl rfl ?_
  refine tl_sipush rfl rfl ?_
  refine tl_iald (n := 1362) rfl rfl rfl (by omega) (by omega) ?_
  rw [show Int.toNat 1169 = 1169 from rfl]
  refine tl_aload_n rfl rfl ?_
  refine tl_getr (c := 12) (k9 := 3) (b := 390) rfl rfl rfl rfl ?_
  show jT _ _ 12 _ _ _ _
  refine tl_sipush rfl rfl ?_
  refine tl_iald (n := 1362) rfl rfl rfl (by omega) (by omega) ?_
  rw [show Int.toNat 1168 = 1168 from rfl]
  refine tl_icmp_ne (tgt := 45) rfl rfl ⟨by omega, by omega⟩ ⟨by omega, by omega⟩ (fun c1 => ?_) (fun c1 => ?_)
  · skip
    refine tl_ret rfl ?_
    -- leaf 0 at 45
    refine ⟨rfl, ?_⟩
    have e : Rcl (h 390) = h 390 := by funext i; rw [Rcl, if_neg (by omega)]
    rw [e, hw_self]
  · show jT _ _ 19 _ _ _ _
    refine tl_aload_n rfl rfl ?_
    refine tl_getr (c := 12) (k9 := 3) (b := 390) rfl rfl rfl rfl ?_
    refine tl_iconst rfl ?_
    show jT _ _ 24 _ _ _ _
    refine tl_s1i (c_fileAt l _ 0) rfl rfl rfl (Nat.le_of_ble_eq_true rfl) (fun z1 h1 p1 => ?_)
    obtain ⟨q1, rfl⟩ := p1
    have q1 := q1.symm
    subst q1
    rw [show (5 + 65 * 0 : Int) = 5 from rfl]
    refine tl_aload_n rfl rfl ?_
    refine tl_getr (c := 12) (k9 := 3) (b := 390) rfl rfl rfl rfl ?_
    refine tl_sipush rfl rfl ?_
    refine tl_iald (n := 1362) rfl rfl rfl (by omega) (by omega) ?_
    rw [show Int.toNat 1168 = 1168 from rfl]
    refine tl_iast (n := 1362) rfl rfl rfl (by omega) (by omega) ?_
    refine tl_aload_n rfl rfl ?_
    show jT _ _ 37 _ _ _ _
    refine tl_getr (c := 12) (k9 := 3) (b := 390) rfl rfl rfl rfl ?_
    refine tl_sipush rfl rfl ?_
    refine tl_iconst rfl ?_
    refine tl_iast (n := 1362) rfl rfl rfl (by omega) (by omega) ?_
    rw [show Int.toNat 1167 = 1167 from rfl]
    refine tl_ret rfl ?_
    -- leaf 1 at 45
    refine ⟨rfl, ?_⟩
    rw [show Int.toNat 5 = 5 from rfl, hs_eq h 390 5, hw_hs]
    congr 1
    funext i
    show _ = Rcl (h 390) i
    unfold Rcl
    rw [if_pos (show h 390 1169 = h 390 1168 by omega)]
set_option maxRecDepth 20000 in
set_option maxHeartbeats 1000000 in
theorem r_write_lp (l : Launch) (h : jH) (n : Int) (hn : jr n) (n1 : 1 ≤ n) (hW : RWI (h 390)) (P : Option Value → jH → Prop) (hx : ∀ y, jT l 311 172 [some (.ref 388), some (.int (jI n)), some (.int (jI 6)), some (.int (jI (((nwr (h 390) n).toNat : Nat) : Int))), y] [] (hw h 390 (Rwr (h 390) (nwr (h 390) n).toNat)) P) : ∀ (m k : Nat) (y : Option Value), (y = none ∨ ∃ z, y = some (.int (jI z))) → (nwr (h 390) n).toNat - k < m → k ≤ (nwr (h 390) n).toNat → jT l 311 45 [some (.ref 388), some (.int (jI n)), some (.int (jI 6)), some (.int (jI (k : Int))), y] [] (hw h 390 (Rwr (h 390) k)) P := by
  have q1 := hn.1
  have q2 := hn.2
  intro m
  induction m with
  | zero => intro k y hy hk; omega
  | succ m ih =>
    intro k y hy hk hkK
    have w0 := hW.2.1
    have hK : (k : Int) ≤ h 390 1168 - h 390 1169 := by unfold nwr at hkK; omega
    have hK0 : (nwr (h 390) n).toNat = n.toNat ∨ ((nwr (h 390) n).toNat = (h 390 1168 - h 390 1169).toNat) := by unfold nwr; omega
    have hK1 : (nwr (h 390) n).toNat ≤ n.toNat := by unfold nwr; omega
    have hK2 : (nwr (h 390) n).toNat ≤ (h 390 1168 - h 390 1169).toNat := by unfold nwr; omega
    obtain ⟨w1, w2, w3⟩ := Rwr_i hW k hK
    have w8 := w3 1168 (by omega) (by omega)
    have w5 := w3 5 (by omega) (by omega)
    have wi := w1
    generalize gF : Rwr (h 390) k = F at w1 w2 w3 w8 w5 wi ⊢
    obtain ⟨r1, r2, r3, r4, r5, r6, r7⟩ := w1
    obtain ⟨s1, s2, s3, s4, s5, s6, s7⟩ := hW
    refine tl_iload_n rfl rfl ?_
    refine tl_iload_n rfl rfl ?_
    refine tl_icmp_ge (tgt := 172) rfl rfl ⟨by omega, by omega⟩ ⟨by omega, by omega⟩ (fun c1 => ?_) (fun c1 => ?_)
    · skip
      show jT _ _ 172 _ _ _ _
      -- leaf 0 at 172
      have e : k = (nwr (h 390) n).toNat := by omega
      rw [← gF, e]
      exact hx _
    · show jT _ _ 50 _ _ _ _
      refine tl_aload_n rfl rfl ?_
      refine tl_getr (c := 12) (k9 := 3) (b := 390) rfl rfl rfl rfl ?_
      refine tl_sipush rfl rfl ?_
      show jT _ _ 57 _ _ _ _
      refine tl_iald (n := 1362) rfl rfl rfl (by omega) (by omega) ?_
      rw [show Int.toNat 1169 = 1169 from rfl]
      rw [hw_s]
      refine tl_aload_n rfl rfl ?_
      refine tl_getr (c := 12) (k9 := 3) (b := 390) rfl rfl rfl rfl ?_
      refine tl_sipush rfl rfl ?_
      refine tl_iald (n := 1362) rfl rfl rfl (by omega) (by omega) ?_
      rw [show Int.toNat 1168 = 1168 from rfl]
      rw [hw_s]
      refine tl_icmp_ge (tgt := 172) rfl rfl ⟨by omega, by omega⟩ ⟨by omega, by omega⟩ (fun c2 => ?_) (fun c2 => ?_)
      · skip
        show jT _ _ 172 _ _ _ _
        -- leaf 1 at 172
        have e : k = (nwr (h 390) n).toNat := by omega
        rw [← gF, e]
        exact hx _
      · show jT _ _ 69 _ _ _ _
        refine tl_sipush rfl rfl ?_
        show jT _ _ 72 _ _ _ _
        refine tl_iconst rfl ?_
        refine tl_aload_n rfl rfl ?_
        refine tl_getr (c := 12) (k9 := 3) (b := 390) rfl rfl rfl rfl ?_
        refine tl_sipush rfl rfl ?_
        refine tl_iald (n := 1362) rfl rfl rfl (by omega) (by omega) ?_
        rw [show Int.toNat 1169 = 1169 from rfl]
        rw [hw_s]
        have lt : F 1169 < F 1168 := by omega
        obtain ⟨t1, t2, t3, t4, t5, t6⟩ := r7 (F 1169).toNat (by omega)
        refine tl_imul rfl ?_
        refine tl_iadd rfl ?_
        show jT _ _ 83 _ _ _ _
        refine tl_istore rfl (Nat.le_of_ble_eq_true rfl) rfl ?_
        refine tl_aload_n rfl rfl ?_
        refine tl_getr (c := 12) (k9 := 3) (b := 390) rfl rfl rfl rfl ?_
        refine tl_iload_n rfl rfl ?_
        refine tl_aload_n rfl rfl ?_
        refine tl_getr (c := 12) (k9 := 3) (b := 390) rfl rfl rfl rfl ?_
        refine tl_iload rfl rfl ?_
        show jT _ _ 96 _ _ _ _
        refine tl_iald (n := 1362) rfl rfl rfl (by omega) (by omega) ?_
        rw [hw_s, show ((1170 : Int) + 3 * F 1169).toNat = 1170 + 3 * (F 1169).toNat by omega]
        refine tl_iadd rfl ?_
        refine tl_aload_n rfl rfl ?_
        refine tl_getr (c := 12) (k9 := 3) (b := 390) rfl rfl rfl rfl ?_
        refine tl_iload rfl rfl ?_
        refine tl_iconst rfl ?_
        refine tl_iadd rfl ?_
        show jT _ _ 106 _ _ _ _
        refine tl_iald (n := 1362) rfl rfl rfl (by omega) (by omega) ?_
        rw [hw_s, show ((1170 : Int) + 3 * F 1169 + 1).toNat = 1171 + 3 * (F 1169).toNat by omega]
        refine tl_iconst rfl ?_
        refine tl_icmp_ne (tgt := 123) rfl rfl ⟨by omega, by omega⟩ ⟨by omega, by omega⟩ (fun c3 => ?_) (fun c3 => ?_)
        · skip
          refine tl_aload_n rfl rfl ?_
          refine tl_getr (c := 12) (k9 := 3) (b := 390) rfl rfl rfl rfl ?_
          refine tl_iload_n rfl rfl ?_
          refine tl_aload_n rfl rfl ?_
          show jT _ _ 129 _ _ _ _
          refine tl_getr (c := 12) (k9 := 3) (b := 390) rfl rfl rfl rfl ?_
          refine tl_iload rfl rfl ?_
          refine tl_iconst rfl ?_
          refine tl_iadd rfl ?_
          refine tl_iald (n := 1362) rfl rfl rfl (by omega) (by omega) ?_
          rw [hw_s, show ((1170 : Int) + 3 * F 1169 + 1).toNat = 1171 + 3 * (F 1169).toNat by omega]
          refine tl_iadd rfl ?_
          refine tl_iald (n := 1362) rfl rfl rfl (by omega) (by omega) ?_
          rw [hw_s]
          have hb := r6 (F (1171 + 3 * (F 1169).toNat)).toNat (by omega)
          rw [show 6 + (F (1171 + 3 * (F 1169).toNat)).toNat = (6 + F (1171 + 3 * (F 1169).toNat)).toNat by omega] at hb
          have hb1 := hb.1
          have hb2 := hb.2
          show jT _ _ 139 _ _ _ _
          refine tl_aload_n rfl rfl ?_
          refine tl_getr (c := 12) (k9 := 3) (b := 390) rfl rfl rfl rfl ?_
          refine tl_iload rfl rfl ?_
          refine tl_iconst rfl ?_
          refine tl_iadd rfl ?_
          refine tl_iald (n := 1362) rfl rfl rfl (by omega) (by omega) ?_
          rw [hw_s, show ((1170 : Int) + 3 * F 1169 + 2).toNat = 1172 + 3 * (F 1169).toNat by omega]
          refine tl_iadd rfl ?_
          show jT _ _ 149 _ _ _ _
          refine tl_sipush rfl rfl ?_
          refine tl_irem rfl (by omega) (by omega) (by omega) (by omega) ?_
          refine tl_iast (n := 1362) rfl rfl rfl (by omega) (by omega) ?_
          refine tl_aload_n rfl rfl ?_
          refine tl_getr (c := 12) (k9 := 3) (b := 390) rfl rfl rfl rfl ?_
          refine tl_sipush rfl rfl ?_
          refine tl_dup2 rfl rfl rfl ?_
          show jT _ _ 162 _ _ _ _
          refine tl_iald (n := 1362) rfl rfl rfl (by omega) (by omega) ?_
          rw [show Int.toNat 1169 = 1169 from rfl]
          rw [hw_hs, hw_s, if_neg (by omega)]
          refine tl_iconst rfl ?_
          refine tl_iadd rfl ?_
          refine tl_iast (n := 1362) rfl rfl rfl (by omega) (by omega) ?_
          rw [show Int.toNat 1169 = 1169 from rfl]
          refine tl_iinc rfl rfl rfl ?_
          refine tl_goto (tgt := 45) rfl rfl ?_
          show jT _ _ 45 _ _ _ _
          -- leaf 2 at 45
          have := ih (k + 1) (some (.int (jI ((1170 : Int) + 3 * F 1169)))) (Or.inr ⟨_, rfl⟩) (by omega) (by omega)
          have e : Rwr (h 390) (k + 1) = fun i => if i = 1169 then F 1169 + 1 else if i = (6 + F (1170 + 3 * (F 1169).toNat)).toNat then Rwv F else F i := by rw [Rwr, gF]; rfl
          rw [e] at this
          rw [hw_hs]
          first
            | (rw [show Rwv F = F (1172 + 3 * (F 1169).toNat) by rw [Rwv, if_pos (by omega)]] at this; exact this)
            | (rw [show Rwv F = (F (6 + F (1171 + 3 * (F 1169).toNat)).toNat + F (1172 + 3 * (F 1169).toNat)) % 256 by rw [Rwv, if_neg (by omega)]] at this; exact this)
        · show jT _ _ 111 _ _ _ _
          refine tl_aload_n rfl rfl ?_
          show jT _ _ 112 _ _ _ _
          refine tl_getr (c := 12) (k9 := 3) (b := 390) rfl rfl rfl rfl ?_
          refine tl_iload rfl rfl ?_
          refine tl_iconst rfl ?_
          refine tl_iadd rfl ?_
          refine tl_iald (n := 1362) rfl rfl rfl (by omega) (by omega) ?_
          rw [hw_s, show ((1170 : Int) + 3 * F 1169 + 2).toNat = 1172 + 3 * (F 1169).toNat by omega]
          refine tl_goto (tgt := 153) rfl rfl ?_
          refine tl_iast (n := 1362) rfl rfl rfl (by omega) (by omega) ?_
          show jT _ _ 154 _ _ _ _
          refine tl_aload_n rfl rfl ?_
          refine tl_getr (c := 12) (k9 := 3) (b := 390) rfl rfl rfl rfl ?_
          refine tl_sipush rfl rfl ?_
          refine tl_dup2 rfl rfl rfl ?_
          refine tl_iald (n := 1362) rfl rfl rfl (by omega) (by omega) ?_
          rw [show Int.toNat 1169 = 1169 from rfl]
          rw [hw_hs, hw_s, if_neg (by omega)]
          refine tl_iconst rfl ?_
          refine tl_iadd rfl ?_
          show jT _ _ 165 _ _ _ _
          refine tl_iast (n := 1362) rfl rfl rfl (by omega) (by omega) ?_
          rw [show Int.toNat 1169 = 1169 from rfl]
          refine tl_iinc rfl rfl rfl ?_
          refine tl_goto (tgt := 45) rfl rfl ?_
          show jT _ _ 45 _ _ _ _
          -- leaf 3 at 45
          have := ih (k + 1) (some (.int (jI ((1170 : Int) + 3 * F 1169)))) (Or.inr ⟨_, rfl⟩) (by omega) (by omega)
          have e : Rwr (h 390) (k + 1) = fun i => if i = 1169 then F 1169 + 1 else if i = (6 + F (1170 + 3 * (F 1169).toNat)).toNat then Rwv F else F i := by rw [Rwr, gF]; rfl
          rw [e] at this
          rw [hw_hs]
          first
            | (rw [show Rwv F = F (1172 + 3 * (F 1169).toNat) by rw [Rwv, if_pos (by omega)]] at this; exact this)
            | (rw [show Rwv F = (F (6 + F (1171 + 3 * (F 1169).toNat)).toNat + F (1172 + 3 * (F 1169).toNat)) % 256 by rw [Rwv, if_neg (by omega)]] at this; exact this)
set_option maxRecDepth 20000 in
set_option maxHeartbeats 1000000 in
theorem r_write (l : Launch) (g h : jH) (t n : Int) (hI0 : IC g h t) (hn : jr n) : cI l 311 [.ref 388, .int (jI n)] h (PR (Dwrite (Tz h) n)) := by
  have n1 := hn.1
  have n2 := hn.2
  refine cI.of rfl rfl ?_
  refine tl_aload_n rfl rfl ?_
  refine tl_iconst rfl ?_
  refine tl_puti (c := 12) (k9 := 0) rfl rfl rfl rfl ?_
  have hI := hI0.z
  change jT _ _ _ _ _ (Tz h) _
  generalize Tz h = m at hI ⊢
  have nu := hI.nund
  have ru := hI.run01
  refine tl_iload_n rfl rfl ?_
  refine tl_iconst rfl ?_
  refine tl_icmp_ge (tgt := 16) rfl rfl ⟨by omega, by omega⟩ ⟨by omega, by omega⟩ (fun c1 => ?_) (fun c1 => ?_)
  · skip
    show jT _ _ 16 _ _ _ _
    refine tl_aload_n rfl rfl ?_
    refine tl_v0i (c9 := 12) (c_runsR l _ ⟨by omega, by omega⟩) rfl rfl rfl rfl rfl (Nat.le_of_ble_eq_true rfl) (fun zu hu pu => ?_)
    obtain ⟨qu, pu⟩ := pu
    have qu := qu.symm
    subst qu
    refine tl_if_ne (tgt := 30) rfl rfl ⟨by omega, by omega⟩ (fun c2 => ?_) (fun c2 => ?_)
    · skip
      refine tl_aload_n rfl rfl ?_
      refine tl_bipush rfl rfl ?_
      refine tl_v1v (c9 := 12) (r_remember l _ 13 (by omega) (by omega)) rfl rfl rfl rfl rfl (Nat.le_of_ble_eq_true rfl) (fun hr pr => ?_)
      subst pr
      have e8 : Trem m 13 388 8 = m 388 8 := Trem_n (by decide)
      have e390 : Trem m 13 390 = m 390 := Trem_o (by decide) (by decide) (by decide)
      have e393 : Trem m 13 393 = m 393 := Trem_o (by decide) (by decide) (by decide)
      generalize gM : Trem m 13 = M at e8 e390 e393 ⊢
      refine tl_iconst rfl ?_
      show jT _ _ 37 _ _ _ _
      refine tl_s1i (c_fileAt l _ 0) rfl rfl rfl (Nat.le_of_ble_eq_true rfl) (fun z1 h1 p1 => ?_)
      obtain ⟨q1, rfl⟩ := p1
      have q1 := q1.symm
      subst q1
      rw [show (5 + 65 * 0 : Int) = 5 from rfl]
      refine tl_iconst rfl ?_
      refine tl_iadd rfl ?_
      refine tl_istore_n rfl (Nat.le_of_ble_eq_true rfl) rfl ?_
      refine tl_iconst rfl ?_
      refine tl_istore_n rfl (Nat.le_of_ble_eq_true rfl) rfl ?_
      show jT _ _ 45 _ _ _ _
      -- leaf 0 at 45
      have r7 : m 390 1167 = 1 := by by_cases c : m 390 1167 = 1 <;> simp_all
      have hW := hI.1.wi r7
      have hW2 : RWI (M 390) := by rw [e390]; exact hW
      have lr : nwr (m 390) n ≤ m 390 1168 - m 390 1169 := by unfold nwr; omega
      have l0 : 0 ≤ nwr (m 390) n := by obtain ⟨s1, s2, s3, s4, s5, s6, s7⟩ := hW; unfold nwr; omega
      obtain ⟨w1, w2, w3⟩ := Rwr_i hW (nwr (m 390) n).toNat (by omega)
      have w8 := w3 1168 (by omega) (by omega)
      obtain ⟨s1, s2, s3, s4, s5, s6, s7⟩ := hW
      have e0 : M = hw M 390 (Rwr (M 390) 0) := by rw [Rwr, hw_self]
      rw [show (5 + 1 : Int) = 6 from rfl]
      refine jT.mem e0 ?_
      refine r_write_lp l M n hn (by omega) hW2 _ (fun y => ?_) _ 0 none (Or.inl rfl) (Nat.lt_succ_self _) (Nat.zero_le _)
      rw [e390]
      refine tl_aload_n rfl rfl ?_
      refine tl_getr (c := 12) (k9 := 3) (b := 390) rfl rfl rfl rfl ?_
      refine tl_sipush rfl rfl ?_
      refine tl_iald (n := 1362) rfl rfl rfl (by omega) (by omega) ?_
      rw [show Int.toNat 1168 = 1168 from rfl]
      rw [hw_s, w8]
      refine tl_aload_n rfl rfl ?_
      refine tl_getr (c := 12) (k9 := 3) (b := 390) rfl rfl rfl rfl ?_
      show jT _ _ 184 _ _ _ _
      refine tl_sipush rfl rfl ?_
      refine tl_iald (n := 1362) rfl rfl rfl (by omega) (by omega) ?_
      rw [show Int.toNat 1169 = 1169 from rfl]
      rw [hw_s, w2]
      refine tl_isub rfl ?_
      refine tl_istore_n rfl (Nat.le_of_ble_eq_true rfl) rfl ?_
      refine tl_aload_n rfl rfl ?_
      refine tl_v0v (c9 := 12) (r_closeRun l _ (by rw [hw_s, w8]; exact ⟨by omega, by omega⟩) (by rw [hw_s, w2]; exact ⟨by omega, by omega⟩)) rfl rfl rfl rfl rfl (Nat.le_of_ble_eq_true rfl) (fun hc pc => ?_)
      subst pc
      rw [hw_hw, hw_s]
      refine tl_aload_n rfl rfl ?_
      show jT _ _ 195 _ _ _ _
      refine tl_iload_n rfl rfl ?_
      refine tl_v1i (c9 := 12) (c_tell l _ _ ⟨by omega, by omega⟩ (by omega)) rfl rfl rfl rfl rfl (Nat.le_of_ble_eq_true rfl) (fun zt ht pt => ?_)
      obtain ⟨rfl, pt⟩ := pt
      refine tl_iret rfl ?_
      -- leaf 0 at 199
      refine ⟨_, rfl, ?_⟩
      rw [Dwrite, if_neg (by omega), if_pos (by omega)]
      have ez : m 390 1168 - (m 390 1169 + (((nwr (m 390) n).toNat : Nat) : Int)) = m 390 1168 - m 390 1169 - nwr (m 390) n := by omega
      rw [ez] at pt ⊢
      refine ⟨rfl, ?_⟩
      rw [pt, gM]
      rfl
    · show jT _ _ 23 _ _ _ _
      refine tl_aload_n rfl rfl ?_
      show jT _ _ 24 _ _ _ _
      refine tl_bipush rfl rfl ?_
      refine tl_v1i (c9 := 12) (c_tell l _ _ ⟨by omega, by omega⟩ (by omega)) rfl rfl rfl rfl rfl (Nat.le_of_ble_eq_true rfl) (fun zt ht pt => ?_)
      obtain ⟨rfl, pt⟩ := pt
      refine tl_iret rfl ?_
      -- leaf 1 at 29
      have ru2 := ru
      refine ⟨_, rfl, ?_⟩
      rw [Dwrite]
      repeat (first | rw [if_pos (by omega)] | rw [if_neg (by omega)])
      exact ⟨rfl, pt⟩
  · show jT _ _ 10 _ _ _ _
    refine tl_aload_n rfl rfl ?_
    refine tl_iconst rfl ?_
    refine tl_v1i (c9 := 12) (c_tell l _ _ ⟨by omega, by omega⟩ (by omega)) rfl rfl rfl rfl rfl (Nat.le_of_ble_eq_true rfl) (fun zt ht pt => ?_)
    obtain ⟨rfl, pt⟩ := pt
    refine tl_iret rfl ?_
    -- leaf 2 at 15
    have ru2 := ru
    refine ⟨_, rfl, ?_⟩
    rw [Dwrite]
    repeat (first | rw [if_pos (by omega)] | rw [if_neg (by omega)])
    exact ⟨rfl, pt⟩
set_option maxRecDepth 20000 in
set_option maxHeartbeats 1000000 in
theorem c_runs (l : Launch) (h : jH) (h8 : jr (h 1 8)) (h9 : jr (h 1 9)) : cI l 116 [.ref 1] h (fun z h' => h' = h ∧ z = if h 1 9 < h 1 8 then 1 else 0) := by
  have x1 := h8.1
  have x2 := h8.2
  have x3 := h9.1
  have x4 := h9.2
  refine cI.ofZ rfl rfl ?_
  refine tl_aload_n rfl rfl ?_
  refine tl_geti (c := 9) (k9 := 9) rfl rfl rfl ?_
  refine tl_aload_n rfl rfl ?_
  refine tl_geti (c := 9) (k9 := 8) rfl rfl rfl ?_
  refine tl_icmp_ge (tgt := 15) rfl rfl ⟨by omega, by omega⟩ ⟨by omega, by omega⟩ (fun c1 => ?_) (fun c1 => ?_)
  · skip
    refine tl_iconst rfl ?_
    show jT _ _ 16 _ _ _ _
    refine tl_iret rfl ?_
    -- leaf 0 at 16
    refine ⟨_, rfl, by omega, rfl, ?_⟩
    first | (rw [if_pos (by omega)]) | (rw [if_neg (by omega)])
  · show jT _ _ 11 _ _ _ _
    refine tl_iconst rfl ?_
    refine tl_goto (tgt := 16) rfl rfl ?_
    refine tl_iret rfl ?_
    -- leaf 1 at 16
    refine ⟨_, rfl, by omega, rfl, ?_⟩
    first | (rw [if_pos (by omega)]) | (rw [if_neg (by omega)])
set_option maxRecDepth 20000 in
set_option maxHeartbeats 1000000 in
theorem c_endRun (l : Launch) (h : jH) (h8 : jr (h 1 8)) (h9 : jr (h 1 9)) : cV l 119 [.ref 1] h (fun h' => h' = if h 1 9 < h 1 8 then h else hs h 2 1 (h 1 8)) := by
  refine cV.of rfl rfl ?_
  refine tl_aload_n rfl rfl ?_
  refine tl_v0i (c9 := 9) (c_runs l h h8 h9) rfl rfl rfl rfl rfl (Nat.le_of_ble_eq_true rfl) (fun z1 h1 p1 => ?_)
  obtain ⟨q1, p1⟩ := p1
  have q1 := q1.symm
  subst q1
  have b1 : z1 = 0 ∨ z1 = 1 := by rw [p1]; split <;> omega
  refine tl_if_ne (tgt := 18) rfl rfl ⟨by omega, by omega⟩ (fun c1 => ?_) (fun c1 => ?_)
  · skip
    refine tl_ret rfl ?_
    -- leaf 0 at 18
    refine ⟨rfl, ?_⟩
    by_cases c : h 1 9 < h 1 8
    · rw [if_pos c]
    · rw [if_neg c] at p1; omega
  · show jT _ _ 7 _ _ _ _
    refine tl_aload_n rfl rfl ?_
    refine tl_getr (c := 9) (k9 := 0) (b := 2) rfl rfl rfl rfl ?_
    show jT _ _ 11 _ _ _ _
    refine tl_aload_n rfl rfl ?_
    refine tl_geti (c := 9) (k9 := 8) rfl rfl rfl ?_
    refine tl_puti (c := 8) (k9 := 1) rfl rfl rfl rfl ?_
    refine tl_ret rfl ?_
    -- leaf 1 at 18
    refine ⟨rfl, ?_⟩
    by_cases c : h 1 9 < h 1 8
    · rw [if_pos c] at p1; omega
    · rw [if_neg c]
def RCW (h : jH) (R : Nat → Int) : Prop := h 1 8 = R 1168 ∧ h 1 9 = R 1169 ∧ h 2 1 = R 5 ∧ (∀ i : Nat, (i : Int) < R 5 → h 3 i = R (6 + i)) ∧ (∀ i : Nat, (i : Int) < R 1168 → h 16 i = R (1170 + 3 * i) ∧ h 17 i = R (1171 + 3 * i) ∧ h 18 i % 256 = R (1172 + 3 * i) ∧ 0 ≤ h 18 i ∧ h 18 i ≤ 510)
theorem RCW.step {h : jH} {R : Nat → Int} (hC : RCW h R) (hR : RWI R) (lt : R 1169 < R 1168) : RCW (hs (hs h 3 (R (1170 + 3 * (R 1169).toNat)).toNat (Rwv R)) 1 9 (R 1169 + 1)) (Rw1 R) := by
  have e8 := Rw1_o hR lt (i := 1168) (by omega) (by omega)
  have e5 := Rw1_o hR lt (i := 5) (by omega) (by omega)
  have e9 : Rw1 R 1169 = R 1169 + 1 := by rw [Rw1, if_pos rfl]
  obtain ⟨c1, c2, c3, c4, c5⟩ := hC
  have hR' := hR
  obtain ⟨r1, r2, r3, r4, r5, r6, r7⟩ := hR
  obtain ⟨y1, y2, y3, y4, y5⟩ := r7 (R 1169).toNat (by omega)
  refine ⟨?_, ?_, ?_, fun i hi => ?_, fun i hi => ?_⟩
  · rw [hs_k (by decide), hs_o (by decide), e8]; exact c1
  · rw [hs_s, e9]
  · rw [hs_o (by decide), hs_o (by decide), e5]; exact c3
  · rw [e5] at hi
    rw [hs_o (by decide), Rw1, if_neg (by omega)]
    by_cases e : i = (R (1170 + 3 * (R 1169).toNat)).toNat
    · subst e; rw [hs_s, if_pos (by omega)]
    · rw [hs_k e, if_neg (by omega)]; exact c4 i hi
  · rw [e8] at hi
    rw [hs_o (by decide), hs_o (by decide), hs_o (by decide), hs_o (by decide), hs_o (by decide), hs_o (by decide), Rw1_o hR' lt (i := 1170 + 3 * i) (by omega) (by omega), Rw1_o hR' lt (i := 1171 + 3 * i) (by omega) (by omega), Rw1_o hR' lt (i := 1172 + 3 * i) (by omega) (by omega)]
    exact c5 i hi
set_option maxRecDepth 20000 in
set_option maxHeartbeats 1000000 in
theorem k_goOn_lp (l : Launch) (h : jH) (R : Nat → Int) (n : Int) (hn : jr n) (n1 : 1 ≤ n) (hW : RWI R) (P : Option Value → jH → Prop) (hx : ∀ mem y y2, (RCW mem (Rwr R (nwr R n).toNat) ∧ (∀ x, x ≠ 1 → x ≠ 3 → mem x = h x) ∧ ∀ q, q ≠ 9 → mem 1 q = h 1 q) → jT l 118 104 [some (.ref 1), some (.int (jI n)), some (.int (jI (((nwr R n).toNat : Nat) : Int))), y, y2] [] mem P) : ∀ (m k : Nat) (mem : jH) (y y2 : Option Value), (y = none ∨ ∃ z, y = some (.int (jI z))) → (y2 = none ∨ ∃ z, y2 = some (.int (jI z))) → (nwr R n).toNat - k < m → k ≤ (nwr R n).toNat → (RCW mem (Rwr R k) ∧ (∀ x, x ≠ 1 → x ≠ 3 → mem x = h x) ∧ ∀ q, q ≠ 9 → mem 1 q = h 1 q) → jT l 118 2 [some (.ref 1), some (.int (jI n)), some (.int (jI (k : Int))), y, y2] [] mem P := by
  have q1 := hn.1
  have q2 := hn.2
  intro m
  induction m with
  | zero => intro k mem y y2 hy hy2 hk; omega
  | succ m ih =>
    intro k mem y y2 hy hy2 hk hkK hinv
    have w0 := hW.2.1
    have hK : (k : Int) ≤ R 1168 - R 1169 := by unfold nwr at hkK; omega
    have hK0 : (nwr R n).toNat = n.toNat ∨ ((nwr R n).toNat = (R 1168 - R 1169).toNat) := by unfold nwr; omega
    have hK1 : (nwr R n).toNat ≤ n.toNat := by unfold nwr; omega
    have hK2 : (nwr R n).toNat ≤ (R 1168 - R 1169).toNat := by unfold nwr; omega
    obtain ⟨w1, w2, w3⟩ := Rwr_i hW k hK
    have w8 := w3 1168 (by omega) (by omega)
    have w5 := w3 5 (by omega) (by omega)
    have wi := w1
    obtain ⟨hC, fr, fr1⟩ := hinv
    have hC0 := hC
    generalize gF : Rwr R k = F at w1 w2 w3 w8 w5 wi hC hC0 ⊢
    obtain ⟨d1, d2, d3, d4, d5⟩ := hC
    obtain ⟨r1, r2, r3, r4, r5, r6, r7⟩ := w1
    obtain ⟨s1, s2, s3, s4, s5, s6, s7⟩ := hW
    refine tl_iload_n rfl rfl ?_
    refine tl_iload_n rfl rfl ?_
    refine tl_icmp_ge (tgt := 104) rfl rfl ⟨by omega, by omega⟩ ⟨by omega, by omega⟩ (fun c1 => ?_) (fun c1 => ?_)
    · skip
      show jT _ _ 104 _ _ _ _
      -- leaf 0 at 104
      have e : k = (nwr R n).toNat := by omega
      rw [← gF] at hC0
      rw [e] at hC0 ⊢
      exact hx mem _ _ ⟨hC0, fr, fr1⟩
    · show jT _ _ 7 _ _ _ _
      refine tl_aload_n rfl rfl ?_
      refine tl_geti (c := 9) (k9 := 9) rfl rfl rfl ?_
      rw [d2]
      refine tl_aload_n rfl rfl ?_
      show jT _ _ 12 _ _ _ _
      refine tl_geti (c := 9) (k9 := 8) rfl rfl rfl ?_
      rw [d1]
      refine tl_icmp_ge (tgt := 104) rfl rfl ⟨by omega, by omega⟩ ⟨by omega, by omega⟩ (fun c2 => ?_) (fun c2 => ?_)
      · skip
        show jT _ _ 104 _ _ _ _
        -- leaf 1 at 104
        have e : k = (nwr R n).toNat := by omega
        rw [← gF] at hC0
        rw [e] at hC0 ⊢
        exact hx mem _ _ ⟨hC0, fr, fr1⟩
      · show jT _ _ 18 _ _ _ _
        refine tl_aload_n rfl rfl ?_
        refine tl_geti (c := 9) (k9 := 9) rfl rfl rfl ?_
        rw [d2]
        refine tl_bipush rfl rfl ?_
        refine tl_icmp_ge (tgt := 104) rfl rfl ⟨by omega, by omega⟩ ⟨by omega, by omega⟩ (fun c3 => ?_) (fun c3 => ?_)
        · skip
          show jT _ _ 104 _ _ _ _
          -- leaf 2 at 104
          have e : k = (nwr R n).toNat := by omega
          rw [← gF] at hC0
          rw [e] at hC0 ⊢
          exact hx mem _ _ ⟨hC0, fr, fr1⟩
        · show jT _ _ 27 _ _ _ _
          refine tl_aload_n rfl rfl ?_
          show jT _ _ 28 _ _ _ _
          refine tl_getr (c := 9) (k9 := 6) (b := 17) rfl rfl rfl rfl ?_
          refine tl_aload_n rfl rfl ?_
          refine tl_geti (c := 9) (k9 := 9) rfl rfl rfl ?_
          rw [d2]
          have lt : F 1169 < F 1168 := by omega
          obtain ⟨t1, t2, t3, t4, t5, t6⟩ := r7 (F 1169).toNat (by omega)
          obtain ⟨u1, u2, u3, u4, u5⟩ := d5 (F 1169).toNat (by omega)
          refine tl_iald (n := 64) rfl rfl rfl (by omega) (by omega) ?_
          rw [u2]
          refine tl_istore_n rfl (Nat.le_of_ble_eq_true rfl) rfl ?_
          refine tl_iload_n rfl rfl ?_
          refine tl_iconst rfl ?_
          show jT _ _ 39 _ _ _ _
          refine tl_icmp_ne (tgt := 46) rfl rfl ⟨by omega, by omega⟩ ⟨by omega, by omega⟩ (fun c4 => ?_) (fun c4 => ?_)
          · skip
            refine tl_aload_n rfl rfl ?_
            refine tl_getr (c := 9) (k9 := 0) (b := 2) rfl rfl rfl rfl ?_
            refine tl_iload_n rfl rfl ?_
            refine tl_v1i (c9 := 8) (c_Row_get l (RSf_S 0 (by decide)) mem (F (1171 + 3 * (F 1169).toNat)) (by show 0 ≤ mem 2 1; omega) (by show mem 2 1 ≤ _; omega) ⟨by omega, by omega⟩) rfl rfl rfl rfl rfl (Nat.le_of_ble_eq_true rfl) (fun zg hg pg => ?_)
            obtain ⟨qg, pg⟩ := pg
            have qg := qg.symm
            subst qg
            rw [if_pos (by show 0 ≤ F (1171 + 3 * (F 1169).toNat) ∧ _ < mem 2 1; omega)] at pg
            have pg2 : zg = mem 3 (F (1171 + 3 * (F 1169).toNat)).toNat := pg
            rw [d4 _ (by omega)] at pg2
            have hb := r6 (F (1171 + 3 * (F 1169).toNat)).toNat (by omega)
            have hb1 := hb.1
            have hb2 := hb.2
            refine tl_istore rfl (Nat.le_of_ble_eq_true rfl) rfl ?_
            refine tl_aload_n rfl rfl ?_
            show jT _ _ 57 _ _ _ _
            refine tl_getr (c := 9) (k9 := 0) (b := 2) rfl rfl rfl rfl ?_
            refine tl_aload_n rfl rfl ?_
            refine tl_getr (c := 9) (k9 := 5) (b := 16) rfl rfl rfl rfl ?_
            refine tl_aload_n rfl rfl ?_
            refine tl_geti (c := 9) (k9 := 9) rfl rfl rfl ?_
            rw [d2]
            refine tl_iald (n := 64) rfl rfl rfl (by omega) (by omega) ?_
            rw [u1]
            refine tl_iload rfl rfl ?_
            show jT _ _ 71 _ _ _ _
            refine tl_aload_n rfl rfl ?_
            refine tl_getr (c := 9) (k9 := 7) (b := 18) rfl rfl rfl rfl ?_
            refine tl_aload_n rfl rfl ?_
            refine tl_geti (c := 9) (k9 := 9) rfl rfl rfl ?_
            rw [d2]
            refine tl_iald (n := 64) rfl rfl rfl (by omega) (by omega) ?_
            refine tl_iadd rfl ?_
            refine tl_sipush rfl rfl ?_
            show jT _ _ 84 _ _ _ _
            refine tl_iand rfl (jI_and255 _) ?_
            refine tl_v2v (c9 := 8) (c_Row_change l (RSf_S 0 (by decide)) mem (F (1170 + 3 * (F 1169).toNat)) _ (by show 0 ≤ mem 2 1; omega) (by show mem 2 1 ≤ _; omega) ⟨by omega, by omega⟩) rfl rfl rfl rfl rfl (Nat.le_of_ble_eq_true rfl) (fun hc pc => ?_)
            rw [if_pos (by show 0 ≤ F (1170 + 3 * (F 1169).toNat) ∧ _ < mem 2 1; omega)] at pc
            have pc2 : hc = hs mem 3 (F (1170 + 3 * (F 1169).toNat)).toNat _ := pc
            clear pc
            subst pc2
            refine tl_aload_n rfl rfl ?_
            refine tl_dup rfl rfl ?_
            refine tl_geti (c := 9) (k9 := 9) rfl rfl rfl ?_
            rw [hs_o (by decide), d2]
            refine tl_iconst rfl ?_
            refine tl_iadd rfl ?_
            show jT _ _ 95 _ _ _ _
            refine tl_puti (c := 9) (k9 := 9) rfl rfl rfl rfl ?_
            refine tl_iinc rfl rfl rfl ?_
            refine tl_goto (tgt := 2) rfl rfl ?_
            show jT _ _ 2 _ _ _ _
            -- leaf 3 at 2
            have st := hC0.step wi lt
            refine ih (k + 1) _ _ _ (Or.inr ⟨_, rfl⟩) (Or.inr ⟨_, rfl⟩) (by omega) (by omega) ⟨?_, fun x x1 x3 => ?_, fun q hq => ?_⟩
            · rw [Rwr, gF]
              have e9 : ∀ v : Int, v = Rwv F → RCW (hs (hs mem 3 (F (1170 + 3 * (F 1169).toNat)).toNat v) 1 9 (F 1169 + 1)) (Rw1 F) := fun v hv => by rw [hv]; exact st
              refine e9 _ ?_
              rw [Rwv]
              first | (rw [if_pos (by omega)]; omega) | (rw [if_neg (by omega), show (6 + F (1171 + 3 * (F 1169).toNat)).toNat = 6 + (F (1171 + 3 * (F 1169).toNat)).toNat by omega, ← pg2]; omega)
            · rw [hs_O x1, hs_O x3]; exact fr x x1 x3
            · rw [hs_k hq, hs_o (by decide)]; exact fr1 q hq
          · show jT _ _ 42 _ _ _ _
            refine tl_iconst rfl ?_
            refine tl_goto (tgt := 54) rfl rfl ?_
            refine tl_istore rfl (Nat.le_of_ble_eq_true rfl) rfl ?_
            refine tl_aload_n rfl rfl ?_
            show jT _ _ 57 _ _ _ _
            refine tl_getr (c := 9) (k9 := 0) (b := 2) rfl rfl rfl rfl ?_
            refine tl_aload_n rfl rfl ?_
            refine tl_getr (c := 9) (k9 := 5) (b := 16) rfl rfl rfl rfl ?_
            refine tl_aload_n rfl rfl ?_
            refine tl_geti (c := 9) (k9 := 9) rfl rfl rfl ?_
            rw [d2]
            refine tl_iald (n := 64) rfl rfl rfl (by omega) (by omega) ?_
            rw [u1]
            refine tl_iload rfl rfl ?_
            show jT _ _ 71 _ _ _ _
            refine tl_aload_n rfl rfl ?_
            refine tl_getr (c := 9) (k9 := 7) (b := 18) rfl rfl rfl rfl ?_
            refine tl_aload_n rfl rfl ?_
            refine tl_geti (c := 9) (k9 := 9) rfl rfl rfl ?_
            rw [d2]
            refine tl_iald (n := 64) rfl rfl rfl (by omega) (by omega) ?_
            refine tl_iadd rfl ?_
            refine tl_sipush rfl rfl ?_
            show jT _ _ 84 _ _ _ _
            refine tl_iand rfl (jI_and255 _) ?_
            refine tl_v2v (c9 := 8) (c_Row_change l (RSf_S 0 (by decide)) mem (F (1170 + 3 * (F 1169).toNat)) _ (by show 0 ≤ mem 2 1; omega) (by show mem 2 1 ≤ _; omega) ⟨by omega, by omega⟩) rfl rfl rfl rfl rfl (Nat.le_of_ble_eq_true rfl) (fun hc pc => ?_)
            rw [if_pos (by show 0 ≤ F (1170 + 3 * (F 1169).toNat) ∧ _ < mem 2 1; omega)] at pc
            have pc2 : hc = hs mem 3 (F (1170 + 3 * (F 1169).toNat)).toNat _ := pc
            clear pc
            subst pc2
            refine tl_aload_n rfl rfl ?_
            refine tl_dup rfl rfl ?_
            refine tl_geti (c := 9) (k9 := 9) rfl rfl rfl ?_
            rw [hs_o (by decide), d2]
            refine tl_iconst rfl ?_
            refine tl_iadd rfl ?_
            show jT _ _ 95 _ _ _ _
            refine tl_puti (c := 9) (k9 := 9) rfl rfl rfl rfl ?_
            refine tl_iinc rfl rfl rfl ?_
            refine tl_goto (tgt := 2) rfl rfl ?_
            show jT _ _ 2 _ _ _ _
            -- leaf 4 at 2
            have st := hC0.step wi lt
            refine ih (k + 1) _ _ _ (Or.inr ⟨_, rfl⟩) (Or.inr ⟨_, rfl⟩) (by omega) (by omega) ⟨?_, fun x x1 x3 => ?_, fun q hq => ?_⟩
            · rw [Rwr, gF]
              have e9 : ∀ v : Int, v = Rwv F → RCW (hs (hs mem 3 (F (1170 + 3 * (F 1169).toNat)).toNat v) 1 9 (F 1169 + 1)) (Rw1 F) := fun v hv => by rw [hv]; exact st
              refine e9 _ ?_
              rw [Rwv]
              first | (rw [if_pos (by omega)]; omega) | (rw [if_neg (by omega), show (6 + F (1171 + 3 * (F 1169).toNat)).toNat = 6 + (F (1171 + 3 * (F 1169).toNat)).toNat by omega, ← pg2]; omega)
            · rw [hs_O x1, hs_O x3]; exact fr x x1 x3
            · rw [hs_k hq, hs_o (by decide)]; exact fr1 q hq
set_option maxRecDepth 20000 in
set_option maxHeartbeats 1000000 in
theorem k_goOn (l : Launch) (h : jH) (R : Nat → Int) (n : Int) (hn : jr n) (n1 : 1 ≤ n) (hW : RWI R) (hC : RCW h R) : cV l 118 [.ref 1, .int (jI n)] h (fun h' => ∃ mem, ((RCW mem (Rwr R (nwr R n).toNat) ∧ (∀ x, x ≠ 1 → x ≠ 3 → mem x = h x) ∧ ∀ q, q ≠ 9 → mem 1 q = h 1 q)) ∧ h' = if mem 1 9 < mem 1 8 then mem else hs mem 2 1 (mem 1 8)) := by
  refine cV.of rfl rfl ?_
  refine tl_iconst rfl ?_
  refine tl_istore_n rfl (Nat.le_of_ble_eq_true rfl) rfl ?_
  show jT _ _ 2 _ _ _ _
  -- leaf 0 at 2
  refine k_goOn_lp l h R n hn n1 hW _ (fun mem y y2 hi => ?_) _ 0 h none none (Or.inl rfl) (Or.inl rfl) (Nat.lt_succ_self _) (Nat.zero_le _) ⟨hC, fun _ _ _ => rfl, fun _ _ => rfl⟩
  have lr : nwr R n ≤ R 1168 - R 1169 := by unfold nwr; omega
  have l0 : 0 ≤ nwr R n := by obtain ⟨s1, s2, s3, s4, s5, s6, s7⟩ := hW; unfold nwr; omega
  obtain ⟨w1, w2, w3⟩ := Rwr_i hW (nwr R n).toNat (by omega)
  have w8 := w3 1168 (by omega) (by omega)
  obtain ⟨s1, s2, s3, s4, s5, s6, s7⟩ := hW
  have c1 := hi.1.1
  have c2 := hi.1.2.1
  refine tl_aload_n rfl rfl ?_
  refine tl_v0v (c9 := 9) (c_endRun l mem ⟨by omega, by omega⟩ ⟨by omega, by omega⟩) rfl rfl rfl rfl rfl (Nat.le_of_ble_eq_true rfl) (fun he pe => ?_)
  subst pe
  refine tl_ret rfl ?_
  -- leaf 0 at 108
  exact ⟨rfl, mem, hi, rfl⟩
theorem RS.written {h mem : jH} {R F : Nat → Int} (hS : RS h 1 R) (h7 : R 1167 = 1) (hW : RWI F) (hC : RCW mem F) (ef : ∀ i, (i < 6 ∨ 70 ≤ i) → i ≠ 1169 → F i = R i) (fr : ∀ x, x ≠ 1 → x ≠ 3 → mem x = h x) : RS (if mem 1 9 < mem 1 8 then mem else hs mem 2 1 (mem 1 8)) 1 (Rcl F) := by
  obtain ⟨a, b, c, d1, d2, d3, d4, d5⟩ := hS
  obtain ⟨c1, c2, c3, c4, c5⟩ := hC
  obtain ⟨r1, r2, r3, r4, r5, r6, r7⟩ := hW
  have e7 := ef 1167 (by omega) (by omega)
  generalize gM : (if mem 1 9 < mem 1 8 then mem else hs mem 2 1 (mem 1 8)) = M
  have fM : ∀ x, x ≠ 2 → M x = mem x := by
    intro x hx
    rw [← gM]
    split
    · rfl
    · exact hs_O hx
  have oC : ∀ i, i ≠ 5 → i ≠ 1167 → Rcl F i = F i := by
    intro i i1 i2
    by_cases e : F 1169 = F 1168
    · rw [Rcl, if_pos e, if_neg i2, if_neg i1]
    · rw [Rcl, if_neg e]
  refine ⟨fun f hf => ?_, fun k hk => ?_, fun i hi => ?_, ?_⟩
  · by_cases e0 : f = 0
    · subst e0
      have m2 : M 2 1 = Rcl F 5 := by
        rw [← gM, Rcl]
        by_cases e : F 1169 = F 1168
        · rw [if_neg (by omega), if_pos e, if_neg (by omega), if_pos rfl, hs_s, c1]
        · rw [if_pos (by omega), if_neg e, c3]
      have c5' : Rcl F 5 ≤ F 5 ∧ 0 ≤ Rcl F 5 := by
        rw [Rcl]
        split
        · rw [if_neg (by omega), if_pos rfl]; omega
        · omega
      refine ⟨m2, c5'.2, by show Rcl F 5 ≤ 64; omega, fun i hi => ?_⟩
      have hi' : (i : Int) < Rcl F 5 := hi
      show M 3 i = Rcl F (5 + 1 + i) ∧ byt (Rcl F (5 + 1 + i))
      rw [fM 3 (by decide), oC _ (by omega) (by omega), c4 i (by omega)]
      exact ⟨congrArg F (by omega), by have := r6 i (by omega); rwa [show 6 + i = 5 + 1 + i by omega] at this⟩
    · obtain ⟨f1, f2, f3, f4⟩ := a f hf
      have ee : Rcl F (5 + 65 * f) = R (5 + 65 * f) := by rw [oC _ (by omega) (by omega), ef _ (by omega) (by omega)]
      refine ⟨?_, by rw [ee]; exact f2, by rw [ee]; exact f3, fun i hi => ?_⟩
      · rw [fM _ (by omega), fr _ (by omega) (by omega), ee]; exact f1
      · rw [ee] at hi
        rw [fM _ (by omega), fr _ (by omega) (by omega), oC _ (by omega) (by omega), ef _ (by omega) (by omega)]
        exact f4 i hi
  · obtain ⟨f1, f2, f3⟩ := b k hk
    have ee : Rcl F (200 + 301 * k) = R (200 + 301 * k) := by rw [oC _ (by omega) (by omega), ef _ (by omega) (by omega)]
    refine ⟨?_, by rw [ee]; exact f2, fun i hi => ?_⟩
    · rw [fM _ (by omega), fr _ (by omega) (by omega), ee]; exact f1
    · rw [ee] at hi
      rw [fM _ (by omega), fr _ (by omega) (by omega), oC _ (by omega) (by omega), ef _ (by omega) (by omega)]
      exact f3 i hi
  · rw [fM _ (by omega), fr _ (by omega) (by omega), oC _ (by omega) (by omega), ef _ (by omega) (by omega)]
    exact c i hi
  · have m8 : M 1 8 = F 1168 := by rw [fM 1 (by decide), c1]
    have m9 : M 1 9 = F 1169 := by rw [fM 1 (by decide), c2]
    by_cases e : F 1169 = F 1168
    · have z7 : Rcl F 1167 = 0 := by rw [Rcl, if_pos e, if_pos rfl]
      refine ⟨Or.inl z7, ⟨by omega, by omega⟩, ⟨by omega, by omega⟩, fun _ => by omega, fun h1 => by omega⟩
    · have z : Rcl F = F := by funext i; rw [Rcl, if_neg e]
      rw [z]
      refine ⟨Or.inr (by omega), ⟨by omega, by omega⟩, ⟨by omega, by omega⟩, fun h1 => by omega, fun _ => ⟨r1, by omega, r3, m8, m9, r4, fun i hi => ?_⟩⟩
      obtain ⟨y1, y2, y3, y4, y5⟩ := c5 i hi
      obtain ⟨v1, v2, v3, v4, v5⟩ := r7 i hi
      show M 16 i = _ ∧ M 17 i = _ ∧ M 18 i % 256 = _ ∧ 0 ≤ M 18 i ∧ M 18 i ≤ 510 ∧ _
      rw [fM 16 (by decide), fM 17 (by decide), fM 18 (by decide)]
      exact ⟨y1, y2, y3, y4, y5, v1, v2, v3, v4⟩
set_option maxRecDepth 20000 in
set_option maxHeartbeats 1000000 in
theorem k_write (l : Launch) (h s : jH) (t n : Int) (hI : IC h s t) (hn : jr n) : cI l 158 [.ref 0, .int (jI n)] h (PK h t (Dwrite s n)) := by
  have n1 := hn.1
  have n2 := hn.2
  refine cI.of rfl rfl ?_
  refine tl_iload_n rfl rfl ?_
  refine tl_iconst rfl ?_
  refine tl_icmp_ge (tgt := 11) rfl rfl ⟨by omega, by omega⟩ ⟨by omega, by omega⟩ (fun c1 => ?_) (fun c1 => ?_)
  · skip
    refine tl_aload_n rfl rfl ?_
    refine tl_getr (c := 11) (k9 := 0) (b := 1) rfl rfl rfl rfl ?_
    refine tl_v0i (c9 := 9) (k_runs l _ _ hI.1) rfl rfl rfl rfl rfl (Nat.le_of_ble_eq_true rfl) (fun zu hu pu => ?_)
    obtain ⟨rfl, pu⟩ := pu
    have ru := hI.run01
    show jT _ _ 18 _ _ _ _
    refine tl_if_ne (tgt := 28) rfl rfl ⟨by omega, by omega⟩ (fun c2 => ?_) (fun c2 => ?_)
    · skip
      refine tl_aload_n rfl rfl ?_
      refine tl_bipush rfl rfl ?_
      refine tl_v1v (c9 := 11) (k_keep l _ s t 13 hI (by decide) (by decide)) rfl rfl rfl rfl rfl (Nat.le_of_ble_eq_true rfl) (fun h1 p1 => ?_)
      obtain ⟨i1, f1⟩ := p1
      have e8 : Trem s 13 388 8 = s 388 8 := Trem_n (by decide)
      have e390 : Trem s 13 390 = s 390 := Trem_o (by decide) (by decide) (by decide)
      have e393 : Trem s 13 393 = s 393 := Trem_o (by decide) (by decide) (by decide)
      have r7 : s 390 1167 = 1 := by omega
      have hW := hI.1.wi r7
      have hC : RCW h1 (s 390) := by
        obtain ⟨a, b, c, d1, d2, d3, d4, d5⟩ := hI.1
        obtain ⟨x1, x2, x3, x4, x5, x6, x7⟩ := d5 r7
        have hF := a 0 (by decide)
        refine ⟨by rw [f1 1 (by omega)]; exact x4, by rw [f1 1 (by omega)]; exact x5, by rw [f1 2 (by omega)]; exact hF.1, fun i hi => ?_, fun i hi => ?_⟩
        · rw [f1 3 (by omega)]; have := (hF.2.2.2 i hi).1; rw [show 5 + 65 * 0 + 1 + i = 6 + i by omega] at this; exact this
        · obtain ⟨y1, y2, y3, y4, y5, y6, y7, y8, y9⟩ := x7 i hi
          rw [f1 16 (by omega), f1 17 (by omega), f1 18 (by omega)]; exact ⟨y1, y2, y3, y4, y5⟩
      refine tl_aload_n rfl rfl ?_
      refine tl_getr (c := 11) (k9 := 0) (b := 1) rfl rfl rfl rfl ?_
      refine tl_iload_n rfl rfl ?_
      show jT _ _ 39 _ _ _ _
      refine tl_v1v (c9 := 9) (k_goOn l h1 (s 390) n hn (by omega) hW hC) rfl rfl rfl rfl rfl (Nat.le_of_ble_eq_true rfl) (fun h2 p2 => ?_)
      obtain ⟨mem, ⟨j1, j2, j3⟩, p2⟩ := p2
      have lr : nwr (s 390) n ≤ s 390 1168 - s 390 1169 := by unfold nwr; omega
      have l0 : 0 ≤ nwr (s 390) n := by obtain ⟨s1, s2, s3, s4, s5, s6, s7⟩ := hW; unfold nwr; omega
      obtain ⟨w1, w2, w3⟩ := Rwr_i hW (nwr (s 390) n).toNat (by omega)
      have w8 := w3 1168 (by omega) (by omega)
      have hS1 : RS h1 1 (s 390) := by have := i1.1; rwa [e390] at this
      have rs := hS1.written r7 w1 j1 w3 j2
      rw [← p2] at rs
      have m8 : h2 1 8 = s 390 1168 := by rw [← w8, ← j1.1, p2]; split; rfl; rw [hs_o (by decide)]
      have m9 : h2 1 9 = s 390 1169 + nwr (s 390) n := by rw [show s 390 1169 + nwr (s 390) n = Rwr (s 390) (nwr (s 390) n).toNat 1169 by omega, ← j1.2.1, p2]; split; rfl; rw [hs_o (by decide)]
      have fo : ∀ x, x = 0 ∨ 4 ≤ x → h2 x = h1 x := fun x hx => by rw [p2]; split; exact j2 x (by omega) (by omega); rw [hs_O (by omega)]; exact j2 x (by omega) (by omega)
      refine tl_aload_n rfl rfl ?_
      refine tl_aload_n rfl rfl ?_
      refine tl_getr (c := 11) (k9 := 0) (b := 1) rfl rfl rfl rfl ?_
      refine tl_geti (c := 9) (k9 := 8) rfl rfl rfl ?_
      rw [m8]
      refine tl_aload_n rfl rfl ?_
      refine tl_getr (c := 11) (k9 := 0) (b := 1) rfl rfl rfl rfl ?_
      show jT _ _ 54 _ _ _ _
      refine tl_geti (c := 9) (k9 := 9) rfl rfl rfl ?_
      rw [m9]
      refine tl_isub rfl ?_
      refine tl_v1i (c9 := 11) (k_accept l _ _) rfl rfl rfl rfl rfl (Nat.le_of_ble_eq_true rfl) (fun za ha pa => ?_)
      obtain ⟨rfl, rfl⟩ := pa
      refine tl_iret rfl ?_
      -- leaf 0 at 61
      refine ⟨_, rfl, ?_⟩
      rw [Dwrite, if_neg (by omega), if_pos r7]
      have i2 : IC h2 (hw (Trem s 13) 390 (Rcl (Rwr (s 390) (nwr (s 390) n).toNat))) t := i1.only (by rw [hw_s]; exact rs) (fun x hx => hw_o hx) (fun i hi => by rw [hw_s, Rcl, e390]; by_cases e : Rwr (s 390) (nwr (s 390) n).toNat 1169 = Rwr (s 390) (nwr (s 390) n).toNat 1168; (rw [if_pos e, if_neg (by omega), if_neg (by omega)]; exact w3 i (by omega) (by omega)); (rw [if_neg e]; exact w3 i (by omega) (by omega))) (fun x hx => fo x (by omega))
      rw [show s 390 1168 - (s 390 1169 + nwr (s 390) n) = s 390 1168 - s 390 1169 - nwr (s 390) n by omega]
      exact PK.acc i2 (by omega) (fun x hx => by rw [fo x (by omega), f1 x (by omega)])
    · show jT _ _ 21 _ _ _ _
      refine tl_aload_n rfl rfl ?_
      refine tl_bipush rfl rfl ?_
      refine tl_v1i (c9 := 11) (k_refuse l _ _ (by omega) (by omega)) rfl rfl rfl rfl rfl (Nat.le_of_ble_eq_true rfl) (fun zr hr pr => ?_)
      obtain ⟨rfl, rfl⟩ := pr
      show jT _ _ 27 _ _ _ _
      refine tl_iret rfl ?_
      -- leaf 1 at 27
      refine ⟨_, rfl, ?_⟩
      rw [Dwrite]
      repeat (first | rw [if_pos (by omega)] | rw [if_neg (by omega)])
      exact PK.ref hI (by omega) (by omega)
  · show jT _ _ 5 _ _ _ _
    refine tl_aload_n rfl rfl ?_
    refine tl_iconst rfl ?_
    refine tl_v1i (c9 := 11) (k_refuse l _ _ (by omega) (by omega)) rfl rfl rfl rfl rfl (Nat.le_of_ble_eq_true rfl) (fun zr hr pr => ?_)
    obtain ⟨rfl, rfl⟩ := pr
    refine tl_iret rfl ?_
    -- leaf 2 at 10
    refine ⟨_, rfl, ?_⟩
    rw [Dwrite]
    repeat (first | rw [if_pos (by omega)] | rw [if_neg (by omega)])
    exact PK.ref hI (by omega) (by omega)
