/-! flawOf, parts, part, way -/
theorem FS9.rf {a b : jH} (f : FS9 a b) : RF a b := ⟨fun x hx => f.1 x (by omega) (by omega), fun q hq => f.2 q (by omega) (by omega) (by omega)⟩
theorem KF.rd9 {h h' : jH} (f : ∀ x, (x < 339 ∨ 355 < x) → h' x = h x) : KF h h' := KF.of (fun x hx => f x (by omega))
theorem RF.rfl9 {a : jH} : RF a a := ⟨fun _ _ => rfl, fun _ _ => rfl⟩
def Afl (R : Nat → Int) (k : Int) : Int := if (0 ≤ k ∧ k ≤ 2) ∧ R (200 + 301 * k).toNat ≠ -1 then rdF (slL R k) true R else -1
def Apt (R : Nat → Int) (k : Int) : Int := if snd9 R k = true then (rNp (slL R k) : Int) else -1
def Apa (R : Nat → Int) (k i w : Int) : Int := if snd9 R k = true ∧ 0 ≤ i ∧ i < (rNp (slL R k) : Int) then (if w = 0 then (if rS (slL R k) 2 i.toNat = 0 then -1 else rS (slL R k) 1 i.toNat) else if w = 1 then rS (slL R k) 2 i.toNat else if w = 2 then rS (slL R k) 3 i.toNat else -1) else -1
def wy0 (V : List Int) : Int := (rn (TB V) (rN V) (rS V 0 1).toNat).1
def wy1 (V : List Int) : Int := (rn (TB V) (rN V) (r1 V).2.1).1
def Awy (R : Nat → Int) (k w : Int) : Int := if snd9 R k = true ∧ (w = 0 ∨ w = 1) then (if w = 0 then wy0 (slL R k) else wy1 (slL R k)) else -1
def DflawOf (s : jH) (k : Int) : Int × jH := (Afl (s 390) k, s)
def Dparts (s : jH) (k : Int) : Int × jH := (Apt (s 390) k, s)
def Dpart (s : jH) (k i w : Int) : Int × jH := (Apa (s 390) k i w, s)
def Dway (s : jH) (k w : Int) : Int × jH := (Awy (s 390) k w, s)
theorem Ag.flawOf {s s' : jH} (h : Ag s s') (k : Int) : AgD (DflawOf s k) (DflawOf s' k) := AgD.rd h (by rw [h 390 (by decide)])
theorem Ag.parts {s s' : jH} (h : Ag s s') (k : Int) : AgD (Dparts s k) (Dparts s' k) := AgD.rd h (by rw [h 390 (by decide)])
theorem Ag.part {s s' : jH} (h : Ag s s') (k i w : Int) : AgD (Dpart s k i w) (Dpart s' k i w) := AgD.rd h (by rw [h 390 (by decide)])
theorem Ag.way {s s' : jH} (h : Ag s s') (k w : Int) : AgD (Dway s k w) (Dway s' k w) := AgD.rd h (by rw [h 390 (by decide)])
theorem sd_0 {R : Nat → Int} {k : Int} (so : sOk R) (h : snd9 R k = true) : LB (slL R k) ∧ (slL R k).length ≤ 300 ∧ hdF (TB (slL R k)) (rN (slL R k)) false R = 0 ∧ rPf (slL R k) = 0 ∧ (r1 (slL R k)).1 = 0 ∧ (r2 (slL R k)).1 = 0 := by
  have a := snd9_t h
  have sb := so.b a.1.1.1 a.1.1.2 a.1.2
  have z := a.2
  unfold rdF at z
  refine ⟨sb.1, sb.2.2.2, ?_, ?_, ?_, ?_⟩ <;> (repeat (first | omega | split at z))
theorem sd_1 {R : Nat → Int} {k : Int} (so : sOk R) (h : snd9 R k = true) : PTI (rN (slL R k)) (rOs (slL R k)) (rNs (slL R k)) (hd5 (TB (slL R k)) (rN (slL R k))).2 (rNp (slL R k)) (rS (slL R k)) ∧ rNp (slL R k) ≤ 99 ∧ (0 ≤ rOs (slL R k) ∧ rOs (slL R k) ≤ 64) ∧ (0 ≤ rNs (slL R k) ∧ rNs (slL R k) ≤ 64) ∧ rS (slL R k) 0 3 = rNs (slL R k) := by
  obtain ⟨a, b, c, d, _, _⟩ := sd_0 so h
  have P1 := rd_P a b c d
  have I0 := rd_I a c
  exact ⟨P1.1, P1.2.2.1, I0.1, I0.2.2.1, P1.2.1⟩
theorem sd_2 {R : Nat → Int} {k : Int} (so : sOk R) (h : snd9 R k = true) {q : Nat} (hq : q < rNp (slL R k)) : (0 ≤ rS (slL R k) 1 q ∧ rS (slL R k) 1 q ≤ 64) ∧ (0 ≤ rS (slL R k) 2 q ∧ rS (slL R k) 2 q ≤ 64) ∧ (0 ≤ rS (slL R k) 3 q ∧ rS (slL R k) 3 q ≤ 64) ∧ (0 ≤ rS (slL R k) 4 q ∧ rS (slL R k) 4 q + rS (slL R k) 2 q + rS (slL R k) 3 q ≤ 64) ∧ rS (slL R k) 1 q + rS (slL R k) 2 q ≤ 64 := by
  have a := sd_1 so h
  have b := a.1.2.2.2.2.2.2 q hq
  have c := a.1.bq'.2.2.2 (q + 1) (by omega)
  have d := a.1.bq'.2.2.2 q (by omega)
  have e := a.1.bq'.1 q hq
  have f := bq_s (S := rS (slL R k)) (i := q)
  have g := a.2.1
  have g2 := a.2.2.1
  have g3 := a.2.2.2.1
  have g4 := a.2.2.2.2
  omega
set_option maxRecDepth 20000 in
set_option maxHeartbeats 1000000 in
theorem k_flawOf (l : Launch) (h s : jH) (t k : Int) (hI : IC h s t) (hk : jr k) : cI l 177 [.ref 0, .int (jI k)] h (PK h t (DflawOf s k)) := by
  have k1 := hk.1
  have k2 := hk.2
  refine cI.of rfl rfl ?_
  refine tl_aload_n rfl rfl ?_
  refine tl_iload_n rfl rfl ?_
  refine tl_v1i (c9 := 11) (k_isFull l _ _ hI.1 k ⟨by omega, by omega⟩) rfl rfl rfl rfl rfl (Nat.le_of_ble_eq_true rfl) (fun zf hf9 pf => ?_)
  obtain ⟨qf, pf⟩ := pf
  have qf := qf.symm
  subst qf
  have bf : zf = 0 ∨ zf = 1 := by rw [pf]; split <;> omega
  refine tl_if_eq (tgt := 35) rfl rfl ⟨by omega, by omega⟩ (fun c1 => ?_) (fun c1 => ?_)
  · skip
    refine tl_iconst rfl ?_
    refine tl_iret rfl ?_
    -- leaf 0 at 36
    refine ⟨_, rfl, ?_⟩
    have e : Afl (s 390) k = -1 := by rw [Afl, if_neg (fun w => by rw [if_pos w] at pf; omega)]
    rw [DflawOf, e]
    exact PK.rd hI KF.rfl'
  · show jT _ _ 8 _ _ _ _
    have cf : (0 ≤ k ∧ k ≤ 2) ∧ s 390 (200 + 301 * k).toNat ≠ -1 := by
      by_cases c : (0 ≤ k ∧ k ≤ 2) ∧ s 390 (200 + 301 * k).toNat ≠ -1
      · exact c
      · rw [if_neg c] at pf; omega
    have hS := RSs_S k.toNat (by omega)
    have sb := hI.sok.b cf.1.1 cf.1.2 cf.2
    show jT _ _ 8 _ _ _ _
    refine tl_aload_n rfl rfl ?_
    refine tl_getr (c := 11) (k9 := 13) (b := 339) rfl rfl rfl rfl ?_
    refine tl_aload_n rfl rfl ?_
    refine tl_getr (c := 11) (k9 := 0) (b := 1) rfl rfl rfl rfl ?_
    refine tl_getr (c := 9) (k9 := 3) (b := 8) rfl rfl rfl rfl ?_
    refine tl_iload_n rfl rfl ?_
    refine tl_aald (n := 3) rfl (Or.inl rfl) rfl (by omega) (by omega) (sr8 k.toNat (by omega)) ?_
    show jT _ _ 21 _ _ _ _
    refine tl_aload_n rfl rfl ?_
    refine tl_getr (c := 11) (k9 := 0) (b := 1) rfl rfl rfl rfl ?_
    refine tl_getr (c := 9) (k9 := 0) (b := 2) rfl rfl rfl rfl ?_
    refine tl_iconst rfl ?_
    refine tl_v3i (c9 := 6) (k_read l hS ⟨by omega, by omega⟩ h (s 390) hI.1 (slL (s 390) k) (hI.1.sl cf.1.1 cf.1.2 cf.2) sb.1 sb.2.2.2 sb.2.2.2 true) rfl rfl rfl rfl rfl (Nat.le_of_ble_eq_true rfl) (fun z1 h1 p1 => ?_)
    obtain ⟨e1, g1, f1⟩ := p1
    subst e1
    refine tl_goto (tgt := 36) rfl rfl ?_
    refine tl_iret rfl ?_
    -- leaf 1 at 36
    refine ⟨_, rfl, ?_⟩
    have e : Afl (s 390) k = rdF (slL (s 390) k) true (s 390) := by rw [Afl, if_pos cf]
    rw [DflawOf, e]
    exact PK.rd hI (KF.rd9 f1)
set_option maxRecDepth 20000 in
set_option maxHeartbeats 1000000 in
theorem r_flawOf (l : Launch) (g h : jH) (t k : Int) (hI0 : IC g h t) (hk : jr k) : cI l 292 [.ref 388, .int (jI k)] h (PRF (DflawOf (Tz h) k)) := by
  have k1 := hk.1
  have k2 := hk.2
  refine cI.of rfl rfl ?_
  refine tl_aload_n rfl rfl ?_
  refine tl_iconst rfl ?_
  refine tl_puti (c := 12) (k9 := 0) rfl rfl rfl rfl ?_
  have hI := hI0.z
  change jT _ _ _ _ _ (Tz h) _
  generalize Tz h = m at hI ⊢
  refine tl_iload_n rfl rfl ?_
  refine tl_s1i (c_isSlotR l _ k ⟨by omega, by omega⟩) rfl rfl rfl (Nat.le_of_ble_eq_true rfl) (fun z1 h1 p1 => ?_)
  obtain ⟨q1, p1⟩ := p1
  have q1 := q1.symm
  subst q1
  have b1 : z1 = 0 ∨ z1 = 1 := by rw [p1]; split <;> omega
  refine tl_if_eq (tgt := 29) rfl rfl ⟨by omega, by omega⟩ (fun c1 => ?_) (fun c1 => ?_)
  · skip
    show jT _ _ 29 _ _ _ _
    refine tl_iconst rfl ?_
    refine tl_iret rfl ?_
    -- leaf 0 at 30
    refine ⟨_, rfl, ?_⟩
    have e : Afl (m 390) k = -1 := by rw [Afl, if_neg (fun w => by rw [if_pos w.1] at p1; omega)]
    rw [DflawOf, e]
    exact PRF.rd RF.rfl9
  · show jT _ _ 12 _ _ _ _
    have ck : 0 ≤ k ∧ k ≤ 2 := by
      by_cases c : 0 ≤ k ∧ k ≤ 2
      · exact c
      · rw [if_neg c] at p1; omega
    have ck1 := ck.1
    have ck2 := ck.2
    refine tl_aload_n rfl rfl ?_
    refine tl_iload_n rfl rfl ?_
    refine tl_v1i (c9 := 12) (c_has l _ k (by omega) (by omega) (by have a := (hI.sok k (by omega) (by omega)).1; exact ⟨by omega, by omega⟩)) rfl rfl rfl rfl rfl (Nat.le_of_ble_eq_true rfl) (fun zh hh9 ph => ?_)
    obtain ⟨qh, ph⟩ := ph
    have qh := qh.symm
    subst qh
    have bh : zh = 0 ∨ zh = 1 := by rw [ph]; split <;> omega
    refine tl_if_eq (tgt := 29) rfl rfl ⟨by omega, by omega⟩ (fun c2 => ?_) (fun c2 => ?_)
    · skip
      refine tl_iconst rfl ?_
      show jT _ _ 30 _ _ _ _
      refine tl_iret rfl ?_
      -- leaf 1 at 30
      refine ⟨_, rfl, ?_⟩
      have e : Afl (m 390) k = -1 := by rw [Afl, if_neg (fun w => by rw [if_neg w.2] at ph; omega)]
      rw [DflawOf, e]
      exact PRF.rd RF.rfl9
    · show jT _ _ 20 _ _ _ _
      have cf : m 390 (200 + 301 * k).toNat ≠ -1 := fun w => by rw [if_pos w] at ph; omega
      refine tl_aload_n rfl rfl ?_
      refine tl_iload_n rfl rfl ?_
      refine tl_iconst rfl ?_
      refine tl_v2i (c9 := 12) (r_readSlot l m (m 390) rfl hI.ok hI.sok k ck1 ck2 cf true) rfl rfl rfl rfl rfl (Nat.le_of_ble_eq_true rfl) (fun z2 h2 p2 => ?_)
      obtain ⟨e2, g2, f2⟩ := p2
      subst e2
      refine tl_goto (tgt := 30) rfl rfl ?_
      refine tl_iret rfl ?_
      -- leaf 2 at 30
      refine ⟨_, rfl, ?_⟩
      have e : Afl (m 390) k = rdF (slL (m 390) k) true (m 390) := by rw [Afl, if_pos ⟨ck, cf⟩]
      rw [DflawOf, e]
      exact PRF.rd f2.rf
set_option maxRecDepth 20000 in
set_option maxHeartbeats 1000000 in
theorem k_parts (l : Launch) (h s : jH) (t k : Int) (hI : IC h s t) (hk : jr k) : cI l 172 [.ref 0, .int (jI k)] h (PK h t (Dparts s k)) := by
  have k1 := hk.1
  have k2 := hk.2
  refine cI.of rfl rfl ?_
  refine tl_aload_n rfl rfl ?_
  refine tl_iload_n rfl rfl ?_
  refine tl_v1i (c9 := 11) (k_isSound l h (s 390) hI.1 k ⟨by omega, by omega⟩) rfl rfl rfl rfl rfl (Nat.le_of_ble_eq_true rfl) (fun z1 h1 p1 => ?_)
  obtain ⟨e1, g1, f1⟩ := p1
  have b1 := zb_b (snd9 (s 390) k)
  subst e1
  refine tl_if_eq (tgt := 18) rfl rfl ⟨by omega, by omega⟩ (fun c1 => ?_) (fun c1 => ?_)
  · skip
    have es := zb0 c1
    refine tl_iconst rfl ?_
    refine tl_iret rfl ?_
    -- leaf 0 at 19
    refine ⟨_, rfl, ?_⟩
    have e : Apt (s 390) k = -1 := by rw [Apt, if_neg (by rw [es]; decide)]
    rw [Dparts, e]
    exact PK.rd hI (KF.rd9 f1)
  · show jT _ _ 8 _ _ _ _
    have es := zb1' c1
    show jT _ _ 8 _ _ _ _
    refine tl_aload_n rfl rfl ?_
    refine tl_getr (c := 11) (k9 := 13) (b := 339) rfl rfl rfl rfl ?_
    refine tl_geti (c := 6) (k9 := 4) rfl rfl rfl ?_
    rw [(g1 es).1.2.2.2.2]
    refine tl_goto (tgt := 19) rfl rfl ?_
    refine tl_iret rfl ?_
    -- leaf 1 at 19
    refine ⟨_, rfl, ?_⟩
    have e : Apt (s 390) k = (rNp (slL (s 390) k) : Int) := by rw [Apt, if_pos es]
    rw [Dparts, e]
    exact PK.rd hI (KF.rd9 f1)
set_option maxRecDepth 20000 in
set_option maxHeartbeats 1000000 in
theorem r_parts (l : Launch) (g h : jH) (t k : Int) (hI0 : IC g h t) (hk : jr k) : cI l 293 [.ref 388, .int (jI k)] h (PRF (Dparts (Tz h) k)) := by
  have k1 := hk.1
  have k2 := hk.2
  refine cI.of rfl rfl ?_
  refine tl_aload_n rfl rfl ?_
  refine tl_iconst rfl ?_
  refine tl_puti (c := 12) (k9 := 0) rfl rfl rfl rfl ?_
  have hI := hI0.z
  change jT _ _ _ _ _ (Tz h) _
  generalize Tz h = m at hI ⊢
  refine tl_aload_n rfl rfl ?_
  refine tl_iload_n rfl rfl ?_
  refine tl_v1i (c9 := 12) (r_isRead l m (m 390) rfl hI.ok hI.sok k ⟨by omega, by omega⟩) rfl rfl rfl rfl rfl (Nat.le_of_ble_eq_true rfl) (fun z1 h1 p1 => ?_)
  obtain ⟨e1, g1, f1⟩ := p1
  have b1 := zb_b (snd9 (m 390) k)
  subst e1
  show jT _ _ 10 _ _ _ _
  refine tl_if_eq (tgt := 20) rfl rfl ⟨by omega, by omega⟩ (fun c1 => ?_) (fun c1 => ?_)
  · skip
    have es := zb0 c1
    refine tl_iconst rfl ?_
    refine tl_iret rfl ?_
    -- leaf 0 at 21
    refine ⟨_, rfl, ?_⟩
    have e : Apt (m 390) k = -1 := by rw [Apt, if_neg (by rw [es]; decide)]
    rw [Dparts, e]
    exact PRF.rd f1.rf
  · show jT _ _ 13 _ _ _ _
    have es := zb1' c1
    refine tl_aload_n rfl rfl ?_
    refine tl_geti (c := 12) (k9 := 38) rfl rfl rfl ?_
    rw [(g1 es).1.2.2.2.2]
    refine tl_goto (tgt := 21) rfl rfl ?_
    refine tl_iret rfl ?_
    -- leaf 1 at 21
    refine ⟨_, rfl, ?_⟩
    have e : Apt (m 390) k = (rNp (slL (m 390) k) : Int) := by rw [Apt, if_pos es]
    rw [Dparts, e]
    exact PRF.rd f1.rf
set_option maxRecDepth 20000 in
set_option maxHeartbeats 1000000 in
theorem k_part (l : Launch) (h s : jH) (t k i w : Int) (hI : IC h s t) (hk : jr k) (hi : jr i) (hw : jr w) : cI l 173 [.ref 0, .int (jI k), .int (jI i), .int (jI w)] h (PK h t (Dpart s k i w)) := by
  have k1 := hk.1
  have k2 := hk.2
  have i1 := hi.1
  have i2 := hi.2
  have w1 := hw.1
  have w2 := hw.2
  refine cI.of rfl rfl ?_
  refine tl_aload_n rfl rfl ?_
  refine tl_iload_n rfl rfl ?_
  refine tl_v1i (c9 := 11) (k_isSound l h (s 390) hI.1 k ⟨by omega, by omega⟩) rfl rfl rfl rfl rfl (Nat.le_of_ble_eq_true rfl) (fun z1 h1 p1 => ?_)
  obtain ⟨e1, g1, f1⟩ := p1
  have b1 := zb_b (snd9 (s 390) k)
  subst e1
  refine tl_if_eq (tgt := 29) rfl rfl ⟨by omega, by omega⟩ (fun c1 => ?_) (fun c1 => ?_)
  · skip
    have es := zb0 c1
    refine tl_iconst rfl ?_
    refine tl_iret rfl ?_
    -- leaf 0 at 30
    refine ⟨_, rfl, ?_⟩
    first
      | (exfalso; omega)
      | (have e : Apa (s 390) k i w = -1 := by rw [Apa, if_neg (fun q => by rw [q.1] at es; exact absurd es (by decide))]
         rw [Dpart, e]
         exact PK.rd hI (KF.rd9 f1))
      | (have e : Apa (s 390) k i w = -1 := by rw [Apa, if_neg (fun q => by have := q.2; omega)]
         rw [Dpart, e]
         exact PK.rd hI (KF.rd9 f1))
  · show jT _ _ 8 _ _ _ _
    have es := zb1' c1
    have n99 := (sd_1 hI.sok es).2.1
    have G1 := g1 es
    have n4 := G1.1.2.2.2.2
    show jT _ _ 8 _ _ _ _
    refine tl_iload_n rfl rfl ?_
    refine tl_if_lt (tgt := 29) rfl rfl ⟨by omega, by omega⟩ (fun c2 => ?_) (fun c2 => ?_)
    · skip
      refine tl_iconst rfl ?_
      refine tl_iret rfl ?_
      -- leaf 1 at 30
      refine ⟨_, rfl, ?_⟩
      first
        | (exfalso; omega)
        | (have e : Apa (s 390) k i w = -1 := by rw [Apa, if_neg (fun q => by rw [q.1] at es; exact absurd es (by decide))]
           rw [Dpart, e]
           exact PK.rd hI (KF.rd9 f1))
        | (have e : Apa (s 390) k i w = -1 := by rw [Apa, if_neg (fun q => by have := q.2; omega)]
           rw [Dpart, e]
           exact PK.rd hI (KF.rd9 f1))
    · show jT _ _ 12 _ _ _ _
      refine tl_iload_n rfl rfl ?_
      refine tl_aload_n rfl rfl ?_
      refine tl_getr (c := 11) (k9 := 13) (b := 339) rfl rfl rfl rfl ?_
      show jT _ _ 17 _ _ _ _
      refine tl_geti (c := 6) (k9 := 4) rfl rfl rfl ?_
      rw [n4]
      refine tl_icmp_ge (tgt := 29) rfl rfl ⟨by omega, by omega⟩ ⟨by omega, by omega⟩ (fun c3 => ?_) (fun c3 => ?_)
      · skip
        refine tl_iconst rfl ?_
        refine tl_iret rfl ?_
        -- leaf 2 at 30
        refine ⟨_, rfl, ?_⟩
        first
          | (exfalso; omega)
          | (have e : Apa (s 390) k i w = -1 := by rw [Apa, if_neg (fun q => by rw [q.1] at es; exact absurd es (by decide))]
             rw [Dpart, e]
             exact PK.rd hI (KF.rd9 f1))
          | (have e : Apa (s 390) k i w = -1 := by rw [Apa, if_neg (fun q => by have := q.2; omega)]
             rw [Dpart, e]
             exact PK.rd hI (KF.rd9 f1))
      · show jT _ _ 23 _ _ _ _
        refine tl_iload_n rfl rfl ?_
        refine tl_bipush rfl rfl ?_
        refine tl_icmp_lt (tgt := 31) rfl rfl ⟨by omega, by omega⟩ ⟨by omega, by omega⟩ (fun c4 => ?_) (fun c4 => ?_)
        · skip
          show jT _ _ 31 _ _ _ _
          refine tl_iload_n rfl rfl ?_
          by_cases ct5 : w < 0 ∨ 2 < w
          · refine tl_tabO (tgt := 106) rfl ⟨by omega, by omega⟩ ct5 rfl ?_
            refine tl_iconst rfl ?_
            refine tl_iret rfl ?_
            -- leaf 3 at 107
            refine ⟨_, rfl, ?_⟩
            first
              | (exfalso; omega)
              | (have e : Apa (s 390) k i w = -1 := by rw [Apa, if_pos ⟨es, by omega, by omega⟩]; repeat (first | rfl | rw [if_pos (by omega)] | rw [if_neg (by omega)])
                 rw [Dpart, e]
                 exact PK.rd hI (KF.rd9 f1))
          · have ct5b : w = 0 ∨ w = 1 ∨ w = 2 := by omega
            rcases ct5b with ct5b | ct5b | ct5b
            · refine tl_tabI (off := 28) (tgt := 60) rfl ⟨by omega, by omega⟩ (by omega) (by omega) (by rw [ct5b]; rfl) rfl ?_
              refine tl_aload_n rfl rfl ?_
              refine tl_getr (c := 11) (k9 := 13) (b := 339) rfl rfl rfl rfl ?_
              refine tl_getr (c := 6) (k9 := 6) (b := 341) rfl rfl rfl rfl ?_
              show jT _ _ 67 _ _ _ _
              refine tl_iload_n rfl rfl ?_
              refine tl_iald (n := 100) rfl rfl rfl (by omega) (by omega) ?_
              rw [(G1.2.1 i.toNat (by omega)).2.1]
              have sb := sd_2 hI.sok es (q := i.toNat) (by omega)
              refine tl_if_ne (tgt := 76) rfl rfl ⟨by omega, by omega⟩ (fun c6 => ?_) (fun c6 => ?_)
              · skip
                refine tl_aload_n rfl rfl ?_
                refine tl_getr (c := 11) (k9 := 13) (b := 339) rfl rfl rfl rfl ?_
                refine tl_getr (c := 6) (k9 := 5) (b := 340) rfl rfl rfl rfl ?_
                refine tl_iload_n rfl rfl ?_
                show jT _ _ 84 _ _ _ _
                refine tl_iald (n := 100) rfl rfl rfl (by omega) (by omega) ?_
                rw [(G1.2.1 i.toNat (by omega)).1]
                refine tl_iret rfl ?_
                -- leaf 4 at 85
                refine ⟨_, rfl, ?_⟩
                first
                  | (have e : Apa (s 390) k i w = -1 := by rw [Apa, if_pos ⟨es, by omega, by omega⟩, if_pos (by omega), if_pos (by omega)]
                     rw [Dpart, e]
                     exact PK.rd hI (KF.rd9 f1))
                  | (have e : Apa (s 390) k i w = rS (slL (s 390) k) 1 i.toNat := by rw [Apa, if_pos ⟨es, by omega, by omega⟩, if_pos (by omega), if_neg (by omega)]
                     rw [Dpart, e]
                     exact PK.rd hI (KF.rd9 f1))
              · show jT _ _ 72 _ _ _ _
                refine tl_iconst rfl ?_
                refine tl_goto (tgt := 85) rfl rfl ?_
                refine tl_iret rfl ?_
                -- leaf 5 at 85
                refine ⟨_, rfl, ?_⟩
                first
                  | (have e : Apa (s 390) k i w = -1 := by rw [Apa, if_pos ⟨es, by omega, by omega⟩, if_pos (by omega), if_pos (by omega)]
                     rw [Dpart, e]
                     exact PK.rd hI (KF.rd9 f1))
                  | (have e : Apa (s 390) k i w = rS (slL (s 390) k) 1 i.toNat := by rw [Apa, if_pos ⟨es, by omega, by omega⟩, if_pos (by omega), if_neg (by omega)]
                     rw [Dpart, e]
                     exact PK.rd hI (KF.rd9 f1))
            · refine tl_tabI (off := 54) (tgt := 86) rfl ⟨by omega, by omega⟩ (by omega) (by omega) (by rw [ct5b]; rfl) rfl ?_
              refine tl_aload_n rfl rfl ?_
              refine tl_getr (c := 11) (k9 := 13) (b := 339) rfl rfl rfl rfl ?_
              show jT _ _ 90 _ _ _ _
              refine tl_getr (c := 6) (k9 := 6) (b := 341) rfl rfl rfl rfl ?_
              refine tl_iload_n rfl rfl ?_
              refine tl_iald (n := 100) rfl rfl rfl (by omega) (by omega) ?_
              rw [(G1.2.1 i.toNat (by omega)).2.1]
              refine tl_iret rfl ?_
              -- leaf 6 at 95
              refine ⟨_, rfl, ?_⟩
              first
                | (exfalso; omega)
                | (have e : Apa (s 390) k i w = rS (slL (s 390) k) 2 i.toNat := by rw [Apa, if_pos ⟨es, by omega, by omega⟩]; repeat (first | rfl | rw [if_pos (by omega)] | rw [if_neg (by omega)])
                   rw [Dpart, e]
                   exact PK.rd hI (KF.rd9 f1))
            · refine tl_tabI (off := 64) (tgt := 96) rfl ⟨by omega, by omega⟩ (by omega) (by omega) (by rw [ct5b]; rfl) rfl ?_
              refine tl_aload_n rfl rfl ?_
              refine tl_getr (c := 11) (k9 := 13) (b := 339) rfl rfl rfl rfl ?_
              refine tl_getr (c := 6) (k9 := 7) (b := 342) rfl rfl rfl rfl ?_
              show jT _ _ 103 _ _ _ _
              refine tl_iload_n rfl rfl ?_
              refine tl_iald (n := 100) rfl rfl rfl (by omega) (by omega) ?_
              rw [(G1.2.1 i.toNat (by omega)).2.2.1]
              refine tl_iret rfl ?_
              -- leaf 7 at 105
              refine ⟨_, rfl, ?_⟩
              first
                | (exfalso; omega)
                | (have e : Apa (s 390) k i w = rS (slL (s 390) k) 3 i.toNat := by rw [Apa, if_pos ⟨es, by omega, by omega⟩]; repeat (first | rfl | rw [if_pos (by omega)] | rw [if_neg (by omega)])
                   rw [Dpart, e]
                   exact PK.rd hI (KF.rd9 f1))
        · show jT _ _ 29 _ _ _ _
          refine tl_iconst rfl ?_
          refine tl_iret rfl ?_
          -- leaf 8 at 30
          refine ⟨_, rfl, ?_⟩
          first
            | (exfalso; omega)
            | (have e : Apa (s 390) k i w = -1 := by rw [Apa, if_neg (fun q => by rw [q.1] at es; exact absurd es (by decide))]
               rw [Dpart, e]
               exact PK.rd hI (KF.rd9 f1))
            | (have e : Apa (s 390) k i w = -1 := by rw [Apa, if_neg (fun q => by have := q.2; omega)]
               rw [Dpart, e]
               exact PK.rd hI (KF.rd9 f1))
set_option maxRecDepth 20000 in
set_option maxHeartbeats 1000000 in
theorem r_part (l : Launch) (g h : jH) (t k i w : Int) (hI0 : IC g h t) (hk : jr k) (hi : jr i) (hw : jr w) : cI l 294 [.ref 388, .int (jI k), .int (jI i), .int (jI w)] h (PRF (Dpart (Tz h) k i w)) := by
  have k1 := hk.1
  have k2 := hk.2
  have i1 := hi.1
  have i2 := hi.2
  have w1 := hw.1
  have w2 := hw.2
  refine cI.of rfl rfl ?_
  refine tl_aload_n rfl rfl ?_
  refine tl_iconst rfl ?_
  refine tl_puti (c := 12) (k9 := 0) rfl rfl rfl rfl ?_
  have hI := hI0.z
  change jT _ _ _ _ _ (Tz h) _
  generalize Tz h = m at hI ⊢
  refine tl_aload_n rfl rfl ?_
  refine tl_iload_n rfl rfl ?_
  refine tl_v1i (c9 := 12) (r_isRead l m (m 390) rfl hI.ok hI.sok k ⟨by omega, by omega⟩) rfl rfl rfl rfl rfl (Nat.le_of_ble_eq_true rfl) (fun z1 h1 p1 => ?_)
  obtain ⟨e1, g1, f1⟩ := p1
  have b1 := zb_b (snd9 (m 390) k)
  subst e1
  show jT _ _ 10 _ _ _ _
  refine tl_if_eq (tgt := 29) rfl rfl ⟨by omega, by omega⟩ (fun c1 => ?_) (fun c1 => ?_)
  · skip
    have es := zb0 c1
    refine tl_iconst rfl ?_
    refine tl_iret rfl ?_
    -- leaf 0 at 30
    refine ⟨_, rfl, ?_⟩
    first
      | (exfalso; omega)
      | (have e : Apa (m 390) k i w = -1 := by rw [Apa, if_neg (fun q => by rw [q.1] at es; exact absurd es (by decide))]
         rw [Dpart, e]
         exact PRF.rd f1.rf)
      | (have e : Apa (m 390) k i w = -1 := by rw [Apa, if_neg (fun q => by have := q.2; omega)]
         rw [Dpart, e]
         exact PRF.rd f1.rf)
  · show jT _ _ 13 _ _ _ _
    have es := zb1' c1
    have n99 := (sd_1 hI.sok es).2.1
    have G1 := g1 es
    have n4 := G1.1.2.2.2.2
    refine tl_iload_n rfl rfl ?_
    refine tl_i2l rfl ⟨by omega, by omega⟩ ?_
    refine tl_lconst (z := 0) rfl rfl ?_
    refine tl_aload_n rfl rfl ?_
    show jT _ _ 17 _ _ _ _
    refine tl_geti (c := 12) (k9 := 38) rfl rfl rfl ?_
    rw [n4]
    refine tl_i2l rfl ⟨by omega, by omega⟩ ?_
    refine tl_lconst (z := 1) rfl rfl ?_
    refine tl_lsub rfl ?_
    refine tl_s3i (c_in l _ _ _ _ ⟨by omega, by omega⟩ ⟨by omega, by omega⟩ ⟨by omega, by omega⟩) rfl rfl rfl (Nat.le_of_ble_eq_true rfl) (fun z2 h2 p2 => ?_)
    obtain ⟨q2, p2⟩ := p2
    have q2 := q2.symm
    subst q2
    have b2 : z2 = 0 ∨ z2 = 1 := by rw [p2]; split <;> omega
    refine tl_if_ne (tgt := 31) rfl rfl ⟨by omega, by omega⟩ (fun c2 => ?_) (fun c2 => ?_)
    · skip
      have ci : 0 ≤ i ∧ i ≤ (rNp (slL (m 390) k) : Int) - 1 := by
        by_cases c : 0 ≤ i ∧ i ≤ (rNp (slL (m 390) k) : Int) - 1
        · exact c
        · rw [if_neg c] at p2; omega
      refine tl_iload_n rfl rfl ?_
      show jT _ _ 32 _ _ _ _
      refine tl_if_ne (tgt := 57) rfl rfl ⟨by omega, by omega⟩ (fun c3 => ?_) (fun c3 => ?_)
      · skip
        refine tl_iload_n rfl rfl ?_
        refine tl_iconst rfl ?_
        refine tl_icmp_ne (tgt := 71) rfl rfl ⟨by omega, by omega⟩ ⟨by omega, by omega⟩ (fun c4 => ?_) (fun c4 => ?_)
        · skip
          refine tl_iload_n rfl rfl ?_
          refine tl_iconst rfl ?_
          refine tl_icmp_ne (tgt := 85) rfl rfl ⟨by omega, by omega⟩ ⟨by omega, by omega⟩ (fun c5 => ?_) (fun c5 => ?_)
          · skip
            show jT _ _ 85 _ _ _ _
            refine tl_iconst rfl ?_
            refine tl_iret rfl ?_
            -- leaf 1 at 86
            refine ⟨_, rfl, ?_⟩
            first
              | (have e : Apa (m 390) k i w = -1 := by rw [Apa, if_pos ⟨es, by omega, by omega⟩, if_pos (by omega), if_pos (by omega)]
                 rw [Dpart, e]
                 exact PRF.rd f1.rf)
              | (have e : Apa (m 390) k i w = rS (slL (m 390) k) 1 i.toNat := by rw [Apa, if_pos ⟨es, by omega, by omega⟩, if_pos (by omega), if_neg (by omega)]
                 rw [Dpart, e]
                 exact PRF.rd f1.rf)
              | (have e : Apa (m 390) k i w = rS (slL (m 390) k) 2 i.toNat := by rw [Apa, if_pos ⟨es, by omega, by omega⟩, if_neg (by omega), if_pos (by omega)]
                 rw [Dpart, e]
                 exact PRF.rd f1.rf)
              | (have e : Apa (m 390) k i w = rS (slL (m 390) k) 3 i.toNat := by rw [Apa, if_pos ⟨es, by omega, by omega⟩, if_neg (by omega), if_neg (by omega), if_pos (by omega)]
                 rw [Dpart, e]
                 exact PRF.rd f1.rf)
              | (have e : Apa (m 390) k i w = -1 := by rw [Apa, if_pos ⟨es, by omega, by omega⟩, if_neg (by omega), if_neg (by omega), if_neg (by omega)]
                 rw [Dpart, e]
                 exact PRF.rd f1.rf)
          · show jT _ _ 76 _ _ _ _
            refine tl_aload_n rfl rfl ?_
            refine tl_getr (c := 12) (k9 := 41) (b := 410) rfl rfl rfl rfl ?_
            refine tl_iload_n rfl rfl ?_
            refine tl_iald (n := 100) rfl rfl rfl (by omega) (by omega) ?_
            rw [(G1.2.1 i.toNat (by omega)).2.2.1]
            refine tl_goto (tgt := 86) rfl rfl ?_
            show jT _ _ 86 _ _ _ _
            refine tl_iret rfl ?_
            -- leaf 2 at 86
            refine ⟨_, rfl, ?_⟩
            first
              | (have e : Apa (m 390) k i w = -1 := by rw [Apa, if_pos ⟨es, by omega, by omega⟩, if_pos (by omega), if_pos (by omega)]
                 rw [Dpart, e]
                 exact PRF.rd f1.rf)
              | (have e : Apa (m 390) k i w = rS (slL (m 390) k) 1 i.toNat := by rw [Apa, if_pos ⟨es, by omega, by omega⟩, if_pos (by omega), if_neg (by omega)]
                 rw [Dpart, e]
                 exact PRF.rd f1.rf)
              | (have e : Apa (m 390) k i w = rS (slL (m 390) k) 2 i.toNat := by rw [Apa, if_pos ⟨es, by omega, by omega⟩, if_neg (by omega), if_pos (by omega)]
                 rw [Dpart, e]
                 exact PRF.rd f1.rf)
              | (have e : Apa (m 390) k i w = rS (slL (m 390) k) 3 i.toNat := by rw [Apa, if_pos ⟨es, by omega, by omega⟩, if_neg (by omega), if_neg (by omega), if_pos (by omega)]
                 rw [Dpart, e]
                 exact PRF.rd f1.rf)
              | (have e : Apa (m 390) k i w = -1 := by rw [Apa, if_pos ⟨es, by omega, by omega⟩, if_neg (by omega), if_neg (by omega), if_neg (by omega)]
                 rw [Dpart, e]
                 exact PRF.rd f1.rf)
        · show jT _ _ 62 _ _ _ _
          refine tl_aload_n rfl rfl ?_
          refine tl_getr (c := 12) (k9 := 40) (b := 409) rfl rfl rfl rfl ?_
          refine tl_iload_n rfl rfl ?_
          refine tl_iald (n := 100) rfl rfl rfl (by omega) (by omega) ?_
          rw [(G1.2.1 i.toNat (by omega)).2.1]
          refine tl_goto (tgt := 86) rfl rfl ?_
          refine tl_iret rfl ?_
          -- leaf 3 at 86
          refine ⟨_, rfl, ?_⟩
          first
            | (have e : Apa (m 390) k i w = -1 := by rw [Apa, if_pos ⟨es, by omega, by omega⟩, if_pos (by omega), if_pos (by omega)]
               rw [Dpart, e]
               exact PRF.rd f1.rf)
            | (have e : Apa (m 390) k i w = rS (slL (m 390) k) 1 i.toNat := by rw [Apa, if_pos ⟨es, by omega, by omega⟩, if_pos (by omega), if_neg (by omega)]
               rw [Dpart, e]
               exact PRF.rd f1.rf)
            | (have e : Apa (m 390) k i w = rS (slL (m 390) k) 2 i.toNat := by rw [Apa, if_pos ⟨es, by omega, by omega⟩, if_neg (by omega), if_pos (by omega)]
               rw [Dpart, e]
               exact PRF.rd f1.rf)
            | (have e : Apa (m 390) k i w = rS (slL (m 390) k) 3 i.toNat := by rw [Apa, if_pos ⟨es, by omega, by omega⟩, if_neg (by omega), if_neg (by omega), if_pos (by omega)]
               rw [Dpart, e]
               exact PRF.rd f1.rf)
            | (have e : Apa (m 390) k i w = -1 := by rw [Apa, if_pos ⟨es, by omega, by omega⟩, if_neg (by omega), if_neg (by omega), if_neg (by omega)]
               rw [Dpart, e]
               exact PRF.rd f1.rf)
      · show jT _ _ 35 _ _ _ _
        show jT _ _ 35 _ _ _ _
        refine tl_aload_n rfl rfl ?_
        refine tl_getr (c := 12) (k9 := 40) (b := 409) rfl rfl rfl rfl ?_
        refine tl_iload_n rfl rfl ?_
        refine tl_iald (n := 100) rfl rfl rfl (by omega) (by omega) ?_
        rw [(G1.2.1 i.toNat (by omega)).2.1]
        have sb := sd_2 hI.sok es (q := i.toNat) (by omega)
        refine tl_if_ne (tgt := 48) rfl rfl ⟨by omega, by omega⟩ (fun c6 => ?_) (fun c6 => ?_)
        · skip
          refine tl_aload_n rfl rfl ?_
          refine tl_getr (c := 12) (k9 := 39) (b := 408) rfl rfl rfl rfl ?_
          show jT _ _ 52 _ _ _ _
          refine tl_iload_n rfl rfl ?_
          refine tl_iald (n := 100) rfl rfl rfl (by omega) (by omega) ?_
          rw [(G1.2.1 i.toNat (by omega)).1]
          refine tl_goto (tgt := 86) rfl rfl ?_
          refine tl_iret rfl ?_
          -- leaf 4 at 86
          refine ⟨_, rfl, ?_⟩
          first
            | (have e : Apa (m 390) k i w = -1 := by rw [Apa, if_pos ⟨es, by omega, by omega⟩, if_pos (by omega), if_pos (by omega)]
               rw [Dpart, e]
               exact PRF.rd f1.rf)
            | (have e : Apa (m 390) k i w = rS (slL (m 390) k) 1 i.toNat := by rw [Apa, if_pos ⟨es, by omega, by omega⟩, if_pos (by omega), if_neg (by omega)]
               rw [Dpart, e]
               exact PRF.rd f1.rf)
            | (have e : Apa (m 390) k i w = rS (slL (m 390) k) 2 i.toNat := by rw [Apa, if_pos ⟨es, by omega, by omega⟩, if_neg (by omega), if_pos (by omega)]
               rw [Dpart, e]
               exact PRF.rd f1.rf)
            | (have e : Apa (m 390) k i w = rS (slL (m 390) k) 3 i.toNat := by rw [Apa, if_pos ⟨es, by omega, by omega⟩, if_neg (by omega), if_neg (by omega), if_pos (by omega)]
               rw [Dpart, e]
               exact PRF.rd f1.rf)
            | (have e : Apa (m 390) k i w = -1 := by rw [Apa, if_pos ⟨es, by omega, by omega⟩, if_neg (by omega), if_neg (by omega), if_neg (by omega)]
               rw [Dpart, e]
               exact PRF.rd f1.rf)
        · show jT _ _ 44 _ _ _ _
          refine tl_iconst rfl ?_
          refine tl_goto (tgt := 86) rfl rfl ?_
          refine tl_iret rfl ?_
          -- leaf 5 at 86
          refine ⟨_, rfl, ?_⟩
          first
            | (have e : Apa (m 390) k i w = -1 := by rw [Apa, if_pos ⟨es, by omega, by omega⟩, if_pos (by omega), if_pos (by omega)]
               rw [Dpart, e]
               exact PRF.rd f1.rf)
            | (have e : Apa (m 390) k i w = rS (slL (m 390) k) 1 i.toNat := by rw [Apa, if_pos ⟨es, by omega, by omega⟩, if_pos (by omega), if_neg (by omega)]
               rw [Dpart, e]
               exact PRF.rd f1.rf)
            | (have e : Apa (m 390) k i w = rS (slL (m 390) k) 2 i.toNat := by rw [Apa, if_pos ⟨es, by omega, by omega⟩, if_neg (by omega), if_pos (by omega)]
               rw [Dpart, e]
               exact PRF.rd f1.rf)
            | (have e : Apa (m 390) k i w = rS (slL (m 390) k) 3 i.toNat := by rw [Apa, if_pos ⟨es, by omega, by omega⟩, if_neg (by omega), if_neg (by omega), if_pos (by omega)]
               rw [Dpart, e]
               exact PRF.rd f1.rf)
            | (have e : Apa (m 390) k i w = -1 := by rw [Apa, if_pos ⟨es, by omega, by omega⟩, if_neg (by omega), if_neg (by omega), if_neg (by omega)]
               rw [Dpart, e]
               exact PRF.rd f1.rf)
    · show jT _ _ 29 _ _ _ _
      have ci : ¬ (0 ≤ i ∧ i ≤ (rNp (slL (m 390) k) : Int) - 1) := fun c => by rw [if_pos c] at p2; omega
      show jT _ _ 29 _ _ _ _
      refine tl_iconst rfl ?_
      refine tl_iret rfl ?_
      -- leaf 6 at 30
      refine ⟨_, rfl, ?_⟩
      first
        | (exfalso; omega)
        | (have e : Apa (m 390) k i w = -1 := by rw [Apa, if_neg (fun q => by rw [q.1] at es; exact absurd es (by decide))]
           rw [Dpart, e]
           exact PRF.rd f1.rf)
        | (have e : Apa (m 390) k i w = -1 := by rw [Apa, if_neg (fun q => by have := q.2; omega)]
           rw [Dpart, e]
           exact PRF.rd f1.rf)
set_option maxRecDepth 20000 in
set_option maxHeartbeats 1000000 in
theorem k_way (l : Launch) (h s : jH) (t k w : Int) (hI : IC h s t) (hk : jr k) (hw : jr w) : cI l 174 [.ref 0, .int (jI k), .int (jI w)] h (PK h t (Dway s k w)) := by
  have k1 := hk.1
  have k2 := hk.2
  have w1 := hw.1
  have w2 := hw.2
  refine cI.of rfl rfl ?_
  refine tl_iload_n rfl rfl ?_
  refine tl_if_lt (tgt := 17) rfl rfl ⟨by omega, by omega⟩ (fun c1 => ?_) (fun c1 => ?_)
  · skip
    refine tl_iconst rfl ?_
    refine tl_iret rfl ?_
    -- leaf 0 at 18
    refine ⟨_, rfl, ?_⟩
    first
      | (have e : Awy (s 390) k w = -1 := by rw [Awy, if_neg (by omega)]
         rw [Dway, e]
         exact PK.rd hI KF.rfl')
      | (have e : Awy (s 390) k w = -1 := by rw [Awy, if_neg (fun q => by rw [q.1] at es; exact absurd es (by decide))]
         rw [Dway, e]
         exact PK.rd hI (KF.rd9 f1))
  · show jT _ _ 4 _ _ _ _
    refine tl_iload_n rfl rfl ?_
    refine tl_iconst rfl ?_
    show jT _ _ 6 _ _ _ _
    refine tl_icmp_gt (tgt := 17) rfl rfl ⟨by omega, by omega⟩ ⟨by omega, by omega⟩ (fun c2 => ?_) (fun c2 => ?_)
    · skip
      refine tl_iconst rfl ?_
      refine tl_iret rfl ?_
      -- leaf 1 at 18
      refine ⟨_, rfl, ?_⟩
      first
        | (have e : Awy (s 390) k w = -1 := by rw [Awy, if_neg (by omega)]
           rw [Dway, e]
           exact PK.rd hI KF.rfl')
        | (have e : Awy (s 390) k w = -1 := by rw [Awy, if_neg (fun q => by rw [q.1] at es; exact absurd es (by decide))]
           rw [Dway, e]
           exact PK.rd hI (KF.rd9 f1))
    · show jT _ _ 9 _ _ _ _
      refine tl_aload_n rfl rfl ?_
      refine tl_iload_n rfl rfl ?_
      refine tl_v1i (c9 := 11) (k_isSound l h (s 390) hI.1 k ⟨by omega, by omega⟩) rfl rfl rfl rfl rfl (Nat.le_of_ble_eq_true rfl) (fun z1 h1 p1 => ?_)
      obtain ⟨e1, g1, f1⟩ := p1
      have b1 := zb_b (snd9 (s 390) k)
      subst e1
      refine tl_if_ne (tgt := 19) rfl rfl ⟨by omega, by omega⟩ (fun c3 => ?_) (fun c3 => ?_)
      · skip
        have es := zb1 c3
        show jT _ _ 19 _ _ _ _
        refine tl_aload_n rfl rfl ?_
        refine tl_getr (c := 11) (k9 := 13) (b := 339) rfl rfl rfl rfl ?_
        refine tl_getr (c := 6) (k9 := 9) (b := 344) rfl rfl rfl rfl ?_
        refine tl_iload_n rfl rfl ?_
        refine tl_iald (n := 2) rfl rfl rfl (by omega) (by omega) ?_
        refine tl_iret rfl ?_
        -- leaf 2 at 28
        refine ⟨_, rfl, ?_⟩
        have e : Awy (s 390) k w = h1 344 w.toNat := by
          rw [Awy, if_pos ⟨es, by omega⟩]
          by_cases c : w = 0
          · subst c; rw [if_pos rfl]; exact (g1 es).2.2.2.1.symm
          · have c2 : w = 1 := by omega
            subst c2; rw [if_neg (by decide)]; exact (g1 es).2.2.2.2.symm
        rw [Dway, e]
        exact PK.rd hI (KF.rd9 f1)
      · show jT _ _ 17 _ _ _ _
        have es := zb0' c3
        refine tl_iconst rfl ?_
        show jT _ _ 18 _ _ _ _
        refine tl_iret rfl ?_
        -- leaf 3 at 18
        refine ⟨_, rfl, ?_⟩
        first
          | (have e : Awy (s 390) k w = -1 := by rw [Awy, if_neg (by omega)]
             rw [Dway, e]
             exact PK.rd hI KF.rfl')
          | (have e : Awy (s 390) k w = -1 := by rw [Awy, if_neg (fun q => by rw [q.1] at es; exact absurd es (by decide))]
             rw [Dway, e]
             exact PK.rd hI (KF.rd9 f1))
set_option maxRecDepth 20000 in
set_option maxHeartbeats 1000000 in
theorem r_way (l : Launch) (g h : jH) (t k w : Int) (hI0 : IC g h t) (hk : jr k) (hw : jr w) : cI l 295 [.ref 388, .int (jI k), .int (jI w)] h (PRF (Dway (Tz h) k w)) := by
  have k1 := hk.1
  have k2 := hk.2
  have w1 := hw.1
  have w2 := hw.2
  refine cI.of rfl rfl ?_
  refine tl_aload_n rfl rfl ?_
  refine tl_iconst rfl ?_
  refine tl_puti (c := 12) (k9 := 0) rfl rfl rfl rfl ?_
  have hI := hI0.z
  change jT _ _ _ _ _ (Tz h) _
  generalize Tz h = m at hI ⊢
  refine tl_iload_n rfl rfl ?_
  refine tl_i2l rfl ⟨by omega, by omega⟩ ?_
  refine tl_lconst (z := 0) rfl rfl ?_
  show jT _ _ 8 _ _ _ _
  refine tl_lconst (z := 1) rfl rfl ?_
  refine tl_s3i (c_in l _ _ _ _ ⟨by omega, by omega⟩ ⟨by omega, by omega⟩ ⟨by omega, by omega⟩) rfl rfl rfl (Nat.le_of_ble_eq_true rfl) (fun z2 h2 p2 => ?_)
  obtain ⟨q2, p2⟩ := p2
  have q2 := q2.symm
  subst q2
  have b2 : z2 = 0 ∨ z2 = 1 := by rw [p2]; split <;> omega
  refine tl_if_eq (tgt := 32) rfl rfl ⟨by omega, by omega⟩ (fun c1 => ?_) (fun c1 => ?_)
  · skip
    have cw : ¬ (0 ≤ w ∧ w ≤ 1) := fun c => by rw [if_pos c] at p2; omega
    refine tl_iconst rfl ?_
    refine tl_iret rfl ?_
    -- leaf 0 at 33
    refine ⟨_, rfl, ?_⟩
    first
      | (have e : Awy (m 390) k w = -1 := by rw [Awy, if_neg (by omega)]
         rw [Dway, e]
         exact PRF.rd RF.rfl9)
      | (have e : Awy (m 390) k w = -1 := by rw [Awy, if_neg (fun q => by rw [q.1] at es; exact absurd es (by decide))]
         rw [Dway, e]
         exact PRF.rd f1.rf)
  · show jT _ _ 15 _ _ _ _
    have cw : 0 ≤ w ∧ w ≤ 1 := by
      by_cases c : 0 ≤ w ∧ w ≤ 1
      · exact c
      · rw [if_neg c] at p2; omega
    refine tl_aload_n rfl rfl ?_
    refine tl_iload_n rfl rfl ?_
    show jT _ _ 17 _ _ _ _
    refine tl_v1i (c9 := 12) (r_isRead l m (m 390) rfl hI.ok hI.sok k ⟨by omega, by omega⟩) rfl rfl rfl rfl rfl (Nat.le_of_ble_eq_true rfl) (fun z1 h1 p1 => ?_)
    obtain ⟨e1, g1, f1⟩ := p1
    have b1 := zb_b (snd9 (m 390) k)
    subst e1
    refine tl_if_eq (tgt := 32) rfl rfl ⟨by omega, by omega⟩ (fun c2 => ?_) (fun c2 => ?_)
    · skip
      have es := zb0 c2
      refine tl_iconst rfl ?_
      refine tl_iret rfl ?_
      -- leaf 1 at 33
      refine ⟨_, rfl, ?_⟩
      first
        | (have e : Awy (m 390) k w = -1 := by rw [Awy, if_neg (by omega)]
           rw [Dway, e]
           exact PRF.rd RF.rfl9)
        | (have e : Awy (m 390) k w = -1 := by rw [Awy, if_neg (fun q => by rw [q.1] at es; exact absurd es (by decide))]
           rw [Dway, e]
           exact PRF.rd f1.rf)
    · show jT _ _ 23 _ _ _ _
      have es := zb1' c2
      refine tl_aload_n rfl rfl ?_
      refine tl_getr (c := 12) (k9 := 43) (b := 412) rfl rfl rfl rfl ?_
      refine tl_iload_n rfl rfl ?_
      show jT _ _ 28 _ _ _ _
      refine tl_iald (n := 2) rfl rfl rfl (by omega) (by omega) ?_
      refine tl_goto (tgt := 33) rfl rfl ?_
      refine tl_iret rfl ?_
      -- leaf 2 at 33
      refine ⟨_, rfl, ?_⟩
      have e : Awy (m 390) k w = h1 412 w.toNat := by
        rw [Awy, if_pos ⟨es, by omega⟩]
        by_cases c : w = 0
        · subst c; rw [if_pos rfl]; exact (g1 es).2.2.2.1.symm
        · have c2 : w = 1 := by omega
          subst c2; rw [if_neg (by decide)]; exact (g1 es).2.2.2.2.symm
      rw [Dway, e]
      exact PRF.rd f1.rf
