/-! a patch read as a whole, of the walked file: read -/
def rN (V : List Int) : Nat := V.length - 2
def rOs (V : List Int) : Int := (hd1 (TB V) (rN V)).1
def rOc (V : List Int) : Int := (hd2 (TB V) (rN V)).1
def rNs (V : List Int) : Int := (hd3 (TB V) (rN V)).1
def rNc (V : List Int) : Int := (hd4 (TB V) (rN V)).1
def rNp (V : List Int) : Nat := (hd5 (TB V) (rN V)).1.toNat
def rS (V : List Int) : jH := ptS (TB V) (rN V) (rOs V) (rNs V) (hd5 (TB V) (rN V)).2 (rNp V)
def rC (V : List Int) : Nat := (rS V 0 4).toNat
def r1 (V : List Int) : Int × Nat × List Int := rwR (TB V) (rN V) (rC V) (rS V 0 1).toNat
def r2 (V : List Int) : Int × Nat × List Int := rwR (TB V) (rN V) ((rNs V).toNat - rC V) (r1 V).2.1
def rG (V : List Int) : jH := rg (rS V) (r1 V).2.2 (r2 V).2.2 (rNp V)
def rPf (V : List Int) : Int := ptF (TB V) (rN V) (rOs V) (rNs V) (hd5 (TB V) (rN V)).2 (rNp V)
/-- the flaw -/
def rdF (V : List Int) (fo : Bool) (R : Nat → Int) : Int := if ckf V ≠ 0 then ckf V else if hdF (TB V) (rN V) fo R ≠ 0 then hdF (TB V) (rN V) fo R else if rPf V ≠ 0 then rPf V else if (r1 V).1 ≠ 0 then (r1 V).1 else if (r2 V).1 ≠ 0 then (r2 V).1 else if (r2 V).2.1 < rN V then 6 else if zb fo = 1 ∧ ckL (coL (rG V) R (rNs V).toNat) ≠ rNc V then 7 else 0
theorem gd_B {D : List Int} (h : LB D) (k : Nat) : byt (D.getD k 0) := by
  by_cases c : k < D.length
  · exact h.gd c
  · rw [List.getD_eq_getElem?_getD, List.getElem?_eq_none (by omega)]; exact ⟨by show (0 : Int) ≤ 0; omega, by show (0 : Int) ≤ 255; omega⟩
theorem rg_v {N p0 np : Nat} {os ns : Int} {S : jH} {D X : List Int} (I : PTI N os ns p0 np S) (hD : LB D) (hX : LB X) : ∀ i, i ≤ np → ∀ q : Nat, (q : Int) < bq S i → (rg S D X i 0 q = -1 ∨ (0 ≤ rg S D X i 0 q ∧ rg S D X i 0 q < os)) ∧ byt (rg S D X i 1 q) := by
  have a7 := I.2.2.2.2.2.2
  intro i
  induction i with
  | zero => intro _ q hq; exact absurd hq (by show ¬ (q : Int) < 0; omega)
  | succ i ih =>
    intro hi q hq
    have o := (a7 i (by omega)).1
    rw [rg_s, rg_s]
    by_cases c1 : bq S i ≤ (q : Int) ∧ (q : Int) < bq S i + S 2 i
    · rw [if_pos c1, if_pos c1, if_pos rfl, if_neg (by decide)]
      exact ⟨Or.inr ⟨by omega, by omega⟩, gd_B hD _⟩
    · rw [if_neg c1, if_neg c1]
      by_cases c2 : bq S i + S 2 i ≤ (q : Int) ∧ (q : Int) < bq S (i + 1)
      · rw [if_pos c2, if_pos c2, if_pos rfl, if_neg (by decide)]
        exact ⟨Or.inl rfl, gd_B hX _⟩
      · rw [if_neg c2, if_neg c2]
        exact ih (by omega) q (by omega)
/-- what is known of a patch without a flaw up to its rows -/
theorem rd_I {V : List Int} {fo : Bool} {R : Nat → Int} (hV : LB V) (h0 : hdF (TB V) (rN V) fo R = 0) : (0 ≤ rOs V ∧ rOs V ≤ 64) ∧ (0 ≤ rOc V ∧ rOc V ≤ 16383) ∧ (0 ≤ rNs V ∧ rNs V ≤ 64) ∧ (0 ≤ rNc V ∧ rNc V ≤ 16383) ∧ ((rNp V : Int) = (hd5 (TB V) (rN V)).1 ∧ rNp V ≤ 16383) ∧ ((hd5 (TB V) (rN V)).2 ≤ rN V ∧ 5 ≤ (hd5 (TB V) (rN V)).2) ∧ (zb fo = 1 → rOs V = R 5 ∧ rOc V = ckO R) := by
  have hB : BB (TB V) (rN V) := TB_b hV (by unfold rN; omega)
  obtain ⟨b1, b2, b3, b4, b5⟩ := hd_b hB
  unfold hdF at h0
  unfold rOs rOc rNs rNc rNp
  by_cases c1 : (hd1 (TB V) (rN V)).1 < 0
  · rw [if_pos c1] at h0; omega
  · rw [if_neg c1] at h0
    by_cases c2 : 64 < (hd1 (TB V) (rN V)).1
    · rw [if_pos c2] at h0; omega
    · rw [if_neg c2] at h0
      by_cases c3 : (hd2 (TB V) (rN V)).1 < 0
      · rw [if_pos c3] at h0; omega
      · rw [if_neg c3] at h0
        by_cases c4 : zb fo = 1 ∧ ((hd1 (TB V) (rN V)).1 ≠ R 5 ∨ (hd2 (TB V) (rN V)).1 ≠ ckO R)
        · rw [if_pos c4] at h0; omega
        · rw [if_neg c4] at h0
          by_cases c5 : (hd3 (TB V) (rN V)).1 < 0
          · rw [if_pos c5] at h0; omega
          · rw [if_neg c5] at h0
            by_cases c6 : 64 < (hd3 (TB V) (rN V)).1
            · rw [if_pos c6] at h0; omega
            · rw [if_neg c6] at h0
              by_cases c7 : (hd4 (TB V) (rN V)).1 < 0 ∨ (hd5 (TB V) (rN V)).1 < 0
              · rw [if_pos c7] at h0; omega
              · have e1 := b1.2.2 (by omega)
                have e2 := b2.2.2 (by omega)
                have e3 := b3.2.2 (by omega)
                have e4 := b4.2.2 (by omega)
                have e5 := b5.2.2 (by omega)
                exact ⟨by omega, by omega, by omega, by omega, by omega, by omega, fun z => by omega⟩
theorem rd_P {V : List Int} {fo : Bool} {R : Nat → Int} (hV : LB V) (v3 : V.length ≤ 300) (h0 : hdF (TB V) (rN V) fo R = 0) (h1 : rPf V = 0) : PTI (rN V) (rOs V) (rNs V) (hd5 (TB V) (rN V)).2 (rNp V) (rS V) ∧ rS V 0 3 = rNs V ∧ rNp V ≤ 99 ∧ (rC V : Int) = rS V 0 4 ∧ (rC V : Int) ≤ rNs V ∧ (rS V 0 1).toNat ≤ rN V := by
  have hB : BB (TB V) (rN V) := TB_b hV (by unfold rN; omega)
  have i := rd_I hV h0
  unfold rPf ptF at h1
  by_cases c : rS V 0 0 = 0
  · have I := ptS_I hB i.2.2.2.2.2.1.1 i.1.1 i.2.2.1.1 (rNp V) c
    have I2 : PTI (rN V) (rOs V) (rNs V) (hd5 (TB V) (rN V)).2 (rNp V) (rS V) := I
    rw [show ptS (TB V) (rN V) (rOs V) (rNs V) (hd5 (TB V) (rN V)).2 (rNp V) = rS V from rfl, if_pos c] at h1
    obtain ⟨a1, a2, a3, a4, _⟩ := I2
    have e3 : rS V 0 3 = rNs V := by
      by_cases d : rS V 0 3 < rNs V
      · rw [if_pos d] at h1; omega
      · omega
    refine ⟨I, e3, by unfold rN at a1; omega, by unfold rC; omega, by unfold rC; omega, by omega⟩
  · rw [show ptS (TB V) (rN V) (rOs V) (rNs V) (hd5 (TB V) (rN V)).2 (rNp V) = rS V from rfl, if_neg c] at h1; exact absurd h1 c
theorem rd_G {V : List Int} {fo : Bool} {R : Nat → Int} (hV : LB V) (v3 : V.length ≤ 300) (h0 : hdF (TB V) (rN V) fo R = 0) (h1 : rPf V = 0) (h2 : (r1 V).1 = 0) (h3 : (r2 V).1 = 0) : ((r1 V).2.2.length = rC V ∧ LB (r1 V).2.2 ∧ (r1 V).2.1 ≤ rN V) ∧ ((r2 V).2.2.length = (rNs V).toNat - rC V ∧ LB (r2 V).2.2 ∧ (r2 V).2.1 ≤ rN V) ∧ OGv (rG V) (rNs V).toNat ∧ (zb fo = 1 → OGs (rG V) R (rNs V).toNat) ∧ ∀ q, q < (rNs V).toNat → rG V 0 q = -1 ∨ (0 ≤ rG V 0 q ∧ rG V 0 q < rOs V) := by
  have hB : BB (TB V) (rN V) := TB_b hV (by unfold rN; omega)
  have i := rd_I hV h0
  obtain ⟨I, e3, n99, c1, c2, p1⟩ := rd_P hV v3 h0 h1
  have q1 := rwR_b hB p1 h2
  have q2 := rwR_b hB q1.2.2 h3
  have g := rg_v I q1.2.1 q2.2.1 (rNp V) (Nat.le_refl _)
  have gb := I.bq'.2.1
  have gg : ∀ q, q < (rNs V).toNat → (rG V 0 q = -1 ∨ (0 ≤ rG V 0 q ∧ rG V 0 q < rOs V)) ∧ byt (rG V 1 q) := fun q hq => g q (by omega)
  refine ⟨q1, q2, ⟨by omega, fun q hq => ?_⟩, fun z q hq => ?_, fun q hq => (gg q hq).1⟩
  · have := gg q hq
    exact ⟨by omega, this.2⟩
  · have := gg q hq
    have e := (i.2.2.2.2.2.2 z).1
    exact ⟨by omega, this.2⟩
/-- what the reader holds of a patch without a flaw -/
def RDP (h : jH) (V : List Int) : Prop := (h 339 0 = rOs V ∧ h 339 1 = rOc V ∧ h 339 2 = rNs V ∧ h 339 3 = rNc V ∧ h 339 4 = (rNp V : Int)) ∧ PTK h (rS V) (rNp V) ∧ OG h 345 346 347 (rG V) (rNs V).toNat ∧ h 344 0 = (rn (TB V) (rN V) (rS V 0 1).toNat).1 ∧ h 344 1 = (rn (TB V) (rN V) (r1 V).2.1).1
set_option maxRecDepth 20000 in
set_option maxHeartbeats 1000000 in
theorem k_rdb103 (l : Launch) (rp : Nat) (fo : Bool) (mem : jH) (f : Int) (f0 : f ≠ 0) (f7 : -100 ≤ f ∧ f ≤ 100) (P : Option Value → jH → Prop) (hP : P (some (.int (jI f))) mem) : jT l 65 103 [some (.ref 339), some (.ref rp), some (.ref 2), some (.int (jI (zb fo))), some (.int (jI (f)))] [] mem P := by
  refine tl_iload rfl rfl ?_
  refine tl_if_eq (tgt := 111) rfl rfl ⟨by omega, by omega⟩ (fun c1 => ?_) (fun c1 => ?_)
  · skip
    exfalso; omega
  · show jT _ _ 108 _ _ _ _
    refine tl_iload rfl rfl ?_
    refine tl_iret rfl ?_
    -- leaf 0 at 110
    exact hP
set_option maxRecDepth 20000 in
set_option maxHeartbeats 1000000 in
theorem k_rdb83 (l : Launch) (rp : Nat) (fo : Bool) (mem : jH) (f : Int) (f0 : f ≠ 0) (f7 : -100 ≤ f ∧ f ≤ 100) (P : Option Value → jH → Prop) (hP : P (some (.int (jI f))) mem) : jT l 65 83 [some (.ref 339), some (.ref rp), some (.ref 2), some (.int (jI (zb fo))), some (.int (jI (f)))] [] mem P := by
  refine tl_iload rfl rfl ?_
  refine tl_if_ne (tgt := 103) rfl rfl ⟨by omega, by omega⟩ (fun c1 => ?_) (fun c1 => ?_)
  · skip
    show jT _ _ 103 _ _ _ _
    -- leaf 0 at 103
    exact k_rdb103 l rp fo mem f f0 f7 P hP
  · show jT _ _ 88 _ _ _ _
    exfalso; omega
set_option maxRecDepth 20000 in
set_option maxHeartbeats 1000000 in
theorem k_rdb58 (l : Launch) (rp : Nat) (fo : Bool) (mem : jH) (f : Int) (f0 : f ≠ 0) (f7 : -100 ≤ f ∧ f ≤ 100) (P : Option Value → jH → Prop) (hP : P (some (.int (jI f))) mem) : jT l 65 58 [some (.ref 339), some (.ref rp), some (.ref 2), some (.int (jI (zb fo))), some (.int (jI (f)))] [] mem P := by
  refine tl_iload rfl rfl ?_
  refine tl_if_ne (tgt := 83) rfl rfl ⟨by omega, by omega⟩ (fun c1 => ?_) (fun c1 => ?_)
  · skip
    show jT _ _ 83 _ _ _ _
    -- leaf 0 at 83
    exact k_rdb83 l rp fo mem f f0 f7 P hP
  · show jT _ _ 63 _ _ _ _
    exfalso; omega
set_option maxRecDepth 20000 in
set_option maxHeartbeats 1000000 in
theorem k_rdb38 (l : Launch) (rp : Nat) (fo : Bool) (mem : jH) (f : Int) (f0 : f ≠ 0) (f7 : -100 ≤ f ∧ f ≤ 100) (P : Option Value → jH → Prop) (hP : P (some (.int (jI f))) mem) : jT l 65 38 [some (.ref 339), some (.ref rp), some (.ref 2), some (.int (jI (zb fo))), some (.int (jI (f)))] [] mem P := by
  refine tl_iload rfl rfl ?_
  refine tl_if_ne (tgt := 58) rfl rfl ⟨by omega, by omega⟩ (fun c1 => ?_) (fun c1 => ?_)
  · skip
    show jT _ _ 58 _ _ _ _
    -- leaf 0 at 58
    exact k_rdb58 l rp fo mem f f0 f7 P hP
  · show jT _ _ 43 _ _ _ _
    exfalso; omega
set_option maxRecDepth 20000 in
set_option maxHeartbeats 1000000 in
theorem k_rdb27 (l : Launch) (rp : Nat) (fo : Bool) (mem : jH) (f : Int) (f0 : f ≠ 0) (f7 : -100 ≤ f ∧ f ≤ 100) (P : Option Value → jH → Prop) (hP : P (some (.int (jI f))) mem) : jT l 65 27 [some (.ref 339), some (.ref rp), some (.ref 2), some (.int (jI (zb fo))), some (.int (jI (f)))] [] mem P := by
  refine tl_iload rfl rfl ?_
  refine tl_if_ne (tgt := 38) rfl rfl ⟨by omega, by omega⟩ (fun c1 => ?_) (fun c1 => ?_)
  · skip
    show jT _ _ 38 _ _ _ _
    -- leaf 0 at 38
    exact k_rdb38 l rp fo mem f f0 f7 P hP
  · show jT _ _ 32 _ _ _ _
    exfalso; omega
