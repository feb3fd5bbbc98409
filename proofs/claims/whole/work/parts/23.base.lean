/-! the relation from call to call; the reads of the reference with places; terms, end -/
/-- every call of the reference begins so -/
def Tz (s : jH) : jH := hs s 388 0 0
/-- tell(v) -/
def Ttell (s : jH) (v : Int) : jH := if v < 0 then hs (hs s 388 1 v) 389 (-v).toNat (s 389 (-v).toNat + 1) else hs s 388 1 0
/-- the cells of s that count are those of s' -/
def Ag (s s' : jH) : Prop := ∀ x, 388 ≤ x → s x = s' x
theorem Ag.s1 {s s' : jH} (h : Ag s s') {a k : Nat} {v v' : Int} (e : v = v') : Ag (hs s a k v) (hs s' a k v') := by
  intro x hx
  funext q
  unfold hs
  rw [e, h x hx]
theorem Ag.w1 {s s' : jH} (h : Ag s s') {a : Nat} {f f' : Nat → Int} (e : f = f') : Ag (hw s a f) (hw s' a f') := by
  intro x hx
  unfold hw
  rw [e, h x hx]
theorem Ag.z {s s' : jH} (h : Ag s s') : Ag (Tz s) (Tz s') := h.s1 rfl
theorem Ag.tell {s s' : jH} (h : Ag s s') {v v' : Int} (e : v = v') : Ag (Ttell s v) (Ttell s' v') := by
  subst e
  unfold Ttell
  split
  · exact (h.s1 rfl).s1 (by rw [h 389 (by decide)])
  · exact h.s1 rfl
theorem Ag.rem {s s' : jH} (h : Ag s s') (act : Int) : Ag (Trem s act) (Trem s' act) := by
  unfold Trem
  rw [h 388 (by decide), h 390 (by decide), h 391 (by decide), h 392 (by decide)]
  split
  · exact (h.w1 rfl).w1 rfl
  · exact ((h.w1 rfl).w1 rfl).s1 rfl
/-- only the State now, the tape and what is spare have changed -/
theorem IC.row {h h' s s' : jH} {t : Int} (hI : IC h s t) (hR : RS h' 1 (s' 390)) (hT : RT h' s') (f0 : h' 0 = h 0) (f1 : ∀ x, 20 ≤ x → x < 309 → h' x = h x) (f2 : h' 311 = h 311) (f3 : h' 312 = h 312) (f4 : h' 356 = h 356) (f5 : h' 362 = h 362) (g0 : ∀ q, 1 ≤ q → q ≠ 8 → s' 388 q = s 388 q) (g1 : s' 389 = s 389) (g2 : ∀ k, k < 5 → s' 390 k = s 390 k) (g3 : s' 391 = s 391) (g4 : s' 392 = s 392) : IC h' s' t := by
  obtain ⟨-, hU, -, hN⟩ := hI
  refine ⟨hR, ?_, hT, ?_⟩
  · obtain ⟨u1, u2, u3, u4, u5, u6⟩ := hU
    rw [RU, f0, g0 6 (by decide) (by decide), f1 308 (by decide) (by decide), g3, g4]
    refine ⟨u1, u2, u3, u4, u5, fun k hk => ?_⟩
    obtain ⟨v1, v2⟩ := u6 k hk
    have hm : ((h 0 3).toNat + k) % 16 < 16 := Nat.mod_lt _ (by decide)
    exact ⟨v1.keep (fun x h1 h2 => f1 x (by omega) (by omega)), v2⟩
  · obtain ⟨n1, n2⟩ := hN
    rw [RN, f0, f2, f3, f4, f5, g1, g0 1 (by decide) (by decide), g0 45 (by decide) (by decide), g0 48 (by decide) (by decide), g0 49 (by decide) (by decide), g0 59 (by decide) (by decide), g0 74 (by decide) (by decide)]
    refine ⟨fun k hk => ?_, n2⟩
    rw [g2 k hk]
    exact n1 k hk
theorem RT.keep {h h' s s' : jH} (hT : RT h s) (e1 : h' 309 = h 309) (e2 : h' 310 = h 310) (e3 : s' 388 8 = s 388 8) (e4 : s' 393 = s 393) : RT h' s' := by
  rw [RT, e1, e2, e3, e4]
  exact hT
theorem hs_O {h : jH} {i k a : Nat} {z : Int} (hne : a ≠ i) : hs h i k z a = h a := by funext q; exact hs_o hne
theorem IC.z {h s : jH} {t : Int} (hI : IC h s t) : IC h (Tz s) t := by
  refine hI.row ?_ (hI.2.2.1.keep rfl rfl (hs_k (by decide)) (hs_O (by decide))) rfl (fun _ _ _ => rfl) rfl rfl rfl rfl (fun q h1 h2 => hs_k (by omega)) (hs_O (by decide)) (fun k _ => hs_o (by decide)) (hs_O (by decide)) (hs_O (by decide))
  rw [Tz, hs_O (by decide)]
  exact hI.1
/-- what the reference has alone counts, and of the class its own -/
theorem IC.ag {h h' s s' : jH} {t : Int} (hI : IC h s t) (e : ∀ x, x < 388 → h' x = h x) (a : Ag s' s) : IC h' s' t := by
  refine hI.row ?_ (hI.2.2.1.keep (e _ (by decide)) (e _ (by decide)) (by rw [a 388 (by decide)]) (a _ (by decide))) (e _ (by decide)) (fun x _ _ => e x (by omega)) (e _ (by decide)) (e _ (by decide)) (e _ (by decide)) (e _ (by decide)) (fun q _ _ => by rw [a 388 (by decide)]) (a _ (by decide)) (fun k _ => by rw [a 390 (by decide)]) (a _ (by decide)) (a _ (by decide))
  rw [a 390 (by decide)]
  exact hI.1.keep (fun x h1 h2 => e x (by omega))
theorem IC.mono {h s : jH} {t t' : Int} (hI : IC h s t) (ht : t ≤ t') : IC h s t' := by
  obtain ⟨a, b, c, n1, n2, n3⟩ := hI
  exact ⟨a, b, c, n1, fun k hk => ⟨(n2 k hk).1, (n2 k hk).2.1, by have := (n2 k hk).2.2; omega⟩, n3⟩
theorem IC.refuse {h s : jH} {t v : Int} (hI : IC h s t) (v1 : -6 ≤ v) (v2 : v ≤ -1) : IC (hs (hs h 0 8 v) 312 (-1 - v).toNat (h 312 (-1 - v).toNat + 1)) (Ttell s v) (t + 1) := by
  have hI1 := hI
  obtain ⟨hR, hU, hT, n1, n2, n3, n4, n5⟩ := hI
  rw [Ttell, if_pos (by omega)]
  have a0 : ∀ q, q ≠ 8 → hs (hs h 0 8 v) 312 (-1 - v).toNat (h 312 (-1 - v).toNat + 1) 0 q = h 0 q := fun q hq => by rw [hs_o (by decide), hs_k hq]
  have a1 : ∀ x, x ≠ 0 → x ≠ 312 → hs (hs h 0 8 v) 312 (-1 - v).toNat (h 312 (-1 - v).toNat + 1) x = h x := fun x h0 h1 => by rw [hs_O h1, hs_O h0]
  have b0 : ∀ q, q ≠ 1 → hs (hs s 388 1 v) 389 (-v).toNat (s 389 (-v).toNat + 1) 388 q = s 388 q := fun q hq => by rw [hs_o (by decide), hs_k hq]
  have b1 : ∀ x, x ≠ 388 → x ≠ 389 → hs (hs s 388 1 v) 389 (-v).toNat (s 389 (-v).toNat + 1) x = s x := fun x h0 h1 => by rw [hs_O h1, hs_O h0]
  refine ⟨?_, ?_, ?_, ?_⟩
  · rw [b1 390 (by decide) (by decide)]
    exact hR.keep (fun x h1 h2 => a1 x (by omega) (by omega))
  · have hU2 := IC.undo_same (h' := hs (hs h 0 8 v) 312 (-1 - v).toNat (h 312 (-1 - v).toNat + 1)) hU (a0 3 (by decide)) (a0 4 (by decide)) (a1 308 (by decide) (by decide)) (fun x h1 h2 => a1 x (by omega) (by omega))
    rw [RU, b0 6 (by decide), b1 391 (by decide) (by decide), b1 392 (by decide) (by decide)]
    exact hU2
  · exact hT.keep (a1 _ (by decide) (by decide)) (a1 _ (by decide) (by decide)) (b0 _ (by decide)) (b1 _ (by decide) (by decide))
  · rw [RN, a0 9 (by decide), a1 311 (by decide) (by decide), a1 356 (by decide) (by decide), a1 362 (by decide) (by decide), b1 390 (by decide) (by decide), b0 45 (by decide), b0 48 (by decide), b0 49 (by decide), b0 59 (by decide), b0 74 (by decide)]
    refine ⟨n1, fun k hk => ?_, ?_, ?_, n5⟩
    · by_cases e : k = (-1 - v).toNat
      · subst e
        have := n2 _ hk
        rw [hs_s, show (-1 - v).toNat + 1 = (-v).toNat by omega, hs_s]
        rw [show (-1 - v).toNat + 1 = (-v).toNat by omega] at this
        omega
      · have := n2 _ hk
        rw [hs_k e, hs_o (by decide), hs_k (by omega), hs_o (by decide)]
        omega
    · rw [hs_o (by decide), hs_s, hs_o (by decide), hs_s]
    · rw [hs_o (by decide), hs_s]
      exact ⟨by omega, by omega⟩
theorem IC.accept {h s : jH} {t v : Int} (hI : IC h s t) (v1 : 0 ≤ v) : IC (hs h 0 8 0) (Ttell s v) (t + 1) := by
  obtain ⟨hR, hU, hT, n1, n2, n3, n4, n5⟩ := hI
  rw [Ttell, if_neg (by omega)]
  have a0 : ∀ q, q ≠ 8 → hs h 0 8 0 0 q = h 0 q := fun q hq => hs_k hq
  have a1 : ∀ x, x ≠ 0 → hs h 0 8 0 x = h x := fun x h0 => hs_O h0
  have b0 : ∀ q, q ≠ 1 → hs s 388 1 0 388 q = s 388 q := fun q hq => hs_k hq
  have b1 : ∀ x, x ≠ 388 → hs s 388 1 0 x = s x := fun x h0 => hs_O h0
  refine ⟨?_, ?_, ?_, ?_⟩
  · rw [b1 390 (by decide)]
    exact hR.keep (fun x h1 h2 => a1 x (by omega))
  · have hU2 := IC.undo_same (h' := hs h 0 8 0) hU (a0 3 (by decide)) (a0 4 (by decide)) (a1 308 (by decide)) (fun x h1 h2 => a1 x (by omega))
    rw [RU, b0 6 (by decide), b1 391 (by decide), b1 392 (by decide)]
    exact hU2
  · exact hT.keep (a1 _ (by decide)) (a1 _ (by decide)) (b0 _ (by decide)) (b1 _ (by decide))
  · rw [RN, a0 9 (by decide), a1 311 (by decide), a1 312 (by decide), a1 356 (by decide), a1 362 (by decide), b1 390 (by decide), b1 389 (by decide), b0 45 (by decide), b0 48 (by decide), b0 49 (by decide), b0 59 (by decide), b0 74 (by decide), hs_s, hs_s]
    exact ⟨n1, fun k hk => ⟨(n2 k hk).1, (n2 k hk).2.1, by have := (n2 k hk).2.2; omega⟩, rfl, ⟨by decide, by decide⟩, n5⟩
theorem IC.file {h s : jH} {t f : Int} (hI : IC h s t) (f0 : 0 ≤ f) (f2 : f ≤ 2) : 0 ≤ s 390 (5 + 65 * f).toNat ∧ s 390 (5 + 65 * f).toNat ≤ 64 ∧ ∀ i : Nat, (i : Int) < s 390 (5 + 65 * f).toNat → byt (s 390 ((6 + 65 * f).toNat + i)) := by
  have hF := hI.1.1 f.toNat (by omega)
  rw [show (5 + 65 * f.toNat : Nat) = (5 + 65 * f).toNat by omega] at hF
  refine ⟨hF.2.1, hF.2.2.1, fun i hi => ?_⟩
  have := (hF.2.2.2 i hi).2
  rw [show (5 + 65 * f).toNat + 1 + i = (6 + 65 * f).toNat + i by omega] at this
  exact this
theorem IC.slot {h s : jH} {t f : Int} (hI : IC h s t) (f0 : 0 ≤ f) (f2 : f ≤ 2) : (s 390 (200 + 301 * f).toNat = -1 ∨ (1 ≤ s 390 (200 + 301 * f).toNat ∧ s 390 (200 + 301 * f).toNat ≤ 300)) ∧ ∀ i : Nat, (i : Int) < s 390 (200 + 301 * f).toNat → byt (s 390 ((201 + 301 * f).toNat + i)) := by
  have hF := hI.1.2.1 f.toNat (by omega)
  rw [show (200 + 301 * f.toNat : Nat) = (200 + 301 * f).toNat by omega] at hF
  refine ⟨hF.2.1, fun i hi => ?_⟩
  have := (hF.2.2 i hi).2
  rw [show (200 + 301 * f).toNat + 1 + i = (201 + 301 * f).toNat + i by omega] at this
  exact this
theorem IC.run01 {h s : jH} {t : Int} (hI : IC h s t) : s 390 1167 = 0 ∨ s 390 1167 = 1 := hI.1.2.2.2.1
theorem IC.tape {h s : jH} {t : Int} (hI : IC h s t) : h 309 1 = s 388 8 ∧ 0 ≤ s 388 8 ∧ s 388 8 ≤ 400 := ⟨hI.2.2.1.1, hI.2.2.1.2.1, hI.2.2.1.2.2.1⟩
theorem IC.nund {h s : jH} {t : Int} (hI : IC h s t) : 0 ≤ s 388 6 ∧ s 388 6 ≤ 16 := ⟨hI.2.1.2.1, hI.2.1.2.2.1⟩
theorem jlh (w : Int) (h0 : 0 ≤ w) (h4 : w ≤ 4) : (w = 0 ∧ jlow w.toNat = 2 ∧ jhigh w.toNat = 9) ∨ (w = 1 ∧ jlow w.toNat = 0 ∧ jhigh w.toNat = 9) ∨ (w = 2 ∧ jlow w.toNat = 1 ∧ jhigh w.toNat = 9) ∨ (w = 3 ∧ jlow w.toNat = 0 ∧ jhigh w.toNat = 9) ∨ (w = 4 ∧ jlow w.toNat = 1 ∧ jhigh w.toNat = 6) := by
  have : w = 0 ∨ w = 1 ∨ w = 2 ∨ w = 3 ∨ w = 4 := by omega
  rcases this with e | e | e | e | e <;> subst e <;> decide
theorem jst0 (k : Nat) : jst (3000000 + 0) k = jlow k := rfl
theorem jst1 (k : Nat) : jst (3000000 + 1) k = jhigh k := rfl
set_option maxRecDepth 20000 in
set_option maxHeartbeats 1000000 in
theorem r_byteOf (l : Launch) (g h : jH) (t f i : Int) (hI0 : IC g h t) (hf : jr f) (hi : jr i) : cI l 213 [.ref 388, .int (jI f), .int (jI i)] h (fun z h' => h' = Tz h ∧ z = if (0 ≤ f ∧ f ≤ 2) ∧ 0 ≤ i ∧ i < Tz h 390 (5 + 65 * f).toNat then Tz h 390 ((6 + 65 * f).toNat + i.toNat) else -1) := by
  have f1 := hf.1
  have f2 := hf.2
  have i1 := hi.1
  have i2 := hi.2
  refine cI.of rfl rfl ?_
  refine tl_aload_n rfl rfl ?_
  refine tl_iconst rfl ?_
  refine tl_puti (c := 12) (k9 := 0) rfl rfl rfl rfl ?_
  have hI := hI0.z
  change jT _ _ _ _ _ (Tz h) _
  generalize Tz h = m at hI ⊢
  refine tl_iload_n rfl rfl ?_
  refine tl_i2l rfl ⟨by omega, by omega⟩ ?_
  refine tl_lconst (z := 0) rfl rfl ?_
  show jT _ _ 8 _ _ _ _
  refine tl_ldc2 (z := 2) rfl (by decide +kernel) ?_
  refine tl_s3i (c_in l _ _ _ _ ⟨by omega, by omega⟩ ⟨by omega, by omega⟩ ⟨by omega, by omega⟩) rfl rfl rfl (Nat.le_of_ble_eq_true rfl) (fun z1 h1 p1 => ?_)
  obtain ⟨rfl, p1⟩ := p1
  have b1 : z1 = 0 ∨ z1 = 1 := by rw [p1]; split <;> omega
  refine tl_if_eq (tgt := 43) rfl rfl ⟨by omega, by omega⟩ (fun c1 => ?_) (fun c1 => ?_)
  · skip
    refine tl_iconst rfl ?_
    refine tl_iret rfl ?_
    -- leaf 0 at 44
    exact ⟨_, rfl, rfl, by rw [if_neg (by omega)]⟩
  · show jT _ _ 17 _ _ _ _
    refine tl_iload_n rfl rfl ?_
    refine tl_i2l rfl ⟨by omega, by omega⟩ ?_
    show jT _ _ 19 _ _ _ _
    refine tl_lconst (z := 0) rfl rfl ?_
    refine tl_aload_n rfl rfl ?_
    refine tl_iload_n rfl rfl ?_
    refine tl_v1i (c9 := 12) (c_sizeOf l _ f (by omega) (by omega)) rfl rfl rfl rfl rfl (Nat.le_of_ble_eq_true rfl) (fun zn h2 p2 => ?_)
    obtain ⟨rfl, rfl⟩ := p2
    have hf3 := hI.file (f := f) (by omega) (by omega)
    refine tl_i2l rfl ⟨by omega, by omega⟩ ?_
    refine tl_lconst (z := 1) rfl rfl ?_
    refine tl_lsub rfl ?_
    show jT _ _ 28 _ _ _ _
    refine tl_s3i (c_in l _ _ _ _ ⟨by omega, by omega⟩ ⟨by omega, by omega⟩ ⟨by omega, by omega⟩) rfl rfl rfl (Nat.le_of_ble_eq_true rfl) (fun z3 h3 p3 => ?_)
    obtain ⟨rfl, p3⟩ := p3
    have b3 : z3 = 0 ∨ z3 = 1 := by rw [p3]; split <;> omega
    refine tl_if_eq (tgt := 43) rfl rfl ⟨by omega, by omega⟩ (fun c2 => ?_) (fun c2 => ?_)
    · skip
      refine tl_iconst rfl ?_
      refine tl_iret rfl ?_
      -- leaf 1 at 44
      exact ⟨_, rfl, rfl, by rw [if_neg (by omega)]⟩
    · show jT _ _ 34 _ _ _ _
      refine tl_aload_n rfl rfl ?_
      refine tl_iload_n rfl rfl ?_
      refine tl_iload_n rfl rfl ?_
      show jT _ _ 37 _ _ _ _
      refine tl_v2i (c9 := 12) (c_at l _ f i (by omega) (by omega) (by omega) (by omega)) rfl rfl rfl rfl rfl (Nat.le_of_ble_eq_true rfl) (fun z4 h4 p4 => ?_)
      obtain ⟨rfl, rfl⟩ := p4
      refine tl_goto (tgt := 44) rfl rfl ?_
      refine tl_iret rfl ?_
      -- leaf 2 at 44
      exact ⟨_, rfl, rfl, by rw [if_pos (by omega), show (6 + 65 * f + i).toNat = (6 + 65 * f).toNat + i.toNat by omega]⟩
set_option maxRecDepth 20000 in
set_option maxHeartbeats 1000000 in
theorem r_length (l : Launch) (g h : jH) (t k : Int) (hI0 : IC g h t) (hk : jr k) : cI l 214 [.ref 388, .int (jI k)] h (fun z h' => h' = Tz h ∧ z = if 0 ≤ k ∧ k ≤ 2 then Tz h 390 (200 + 301 * k).toNat else -1) := by
  have k1 := hk.1
  have k2 := hk.2
  refine cI.of rfl rfl ?_
  refine tl_aload_n rfl rfl ?_
  refine tl_iconst rfl ?_
  refine tl_puti (c := 12) (k9 := 0) rfl rfl rfl rfl ?_
  have hI := hI0.z
  change jT _ _ _ _ _ (Tz h) _
  generalize Tz h = m at hI ⊢
  refine tl_iload_n rfl rfl ?_
  refine tl_s1i (c_isSlotR l _ k ⟨by omega, by omega⟩) rfl rfl rfl (Nat.le_of_ble_eq_true rfl) (fun z1 h1 p1 => ?_)
  obtain ⟨rfl, p1⟩ := p1
  have b1 : z1 = 0 ∨ z1 = 1 := by rw [p1]; split <;> omega
  refine tl_if_eq (tgt := 24) rfl rfl ⟨by omega, by omega⟩ (fun c1 => ?_) (fun c1 => ?_)
  · skip
    show jT _ _ 24 _ _ _ _
    refine tl_iconst rfl ?_
    refine tl_iret rfl ?_
    -- leaf 0 at 25
    exact ⟨_, rfl, rfl, by rw [if_neg (by omega)]⟩
  · show jT _ _ 12 _ _ _ _
    refine tl_aload_n rfl rfl ?_
    refine tl_getr (c := 12) (k9 := 3) (b := 390) rfl rfl rfl rfl ?_
    refine tl_iload_n rfl rfl ?_
    refine tl_s1i (c_slotAt l _ k) rfl rfl rfl (Nat.le_of_ble_eq_true rfl) (fun zs hs9 ps => ?_)
    obtain ⟨rfl, rfl⟩ := ps
    have hs3 := hI.slot (f := k) (by omega) (by omega)
    refine tl_iald (n := 1362) rfl rfl rfl (by omega) (by omega) ?_
    show jT _ _ 21 _ _ _ _
    refine tl_goto (tgt := 25) rfl rfl ?_
    refine tl_iret rfl ?_
    -- leaf 1 at 25
    exact ⟨_, rfl, rfl, by rw [if_pos (by omega)]⟩
set_option maxRecDepth 20000 in
set_option maxHeartbeats 1000000 in
theorem r_patch (l : Launch) (g h : jH) (t k i : Int) (hI0 : IC g h t) (hk : jr k) (hi : jr i) : cI l 215 [.ref 388, .int (jI k), .int (jI i)] h (fun z h' => h' = Tz h ∧ z = if (0 ≤ k ∧ k ≤ 2) ∧ 0 ≤ i ∧ i < Tz h 390 (200 + 301 * k).toNat then Tz h 390 ((201 + 301 * k).toNat + i.toNat) else -1) := by
  have k1 := hk.1
  have k2 := hk.2
  have i1 := hi.1
  have i2 := hi.2
  refine cI.of rfl rfl ?_
  refine tl_aload_n rfl rfl ?_
  refine tl_iconst rfl ?_
  refine tl_puti (c := 12) (k9 := 0) rfl rfl rfl rfl ?_
  have hI := hI0.z
  change jT _ _ _ _ _ (Tz h) _
  generalize Tz h = m at hI ⊢
  refine tl_iload_n rfl rfl ?_
  refine tl_s1i (c_isSlotR l _ k ⟨by omega, by omega⟩) rfl rfl rfl (Nat.le_of_ble_eq_true rfl) (fun z1 h1 p1 => ?_)
  obtain ⟨rfl, p1⟩ := p1
  have b1 : z1 = 0 ∨ z1 = 1 := by rw [p1]; split <;> omega
  refine tl_if_eq (tgt := 49) rfl rfl ⟨by omega, by omega⟩ (fun c1 => ?_) (fun c1 => ?_)
  · skip
    show jT _ _ 49 _ _ _ _
    refine tl_iconst rfl ?_
    refine tl_iret rfl ?_
    -- leaf 0 at 50
    exact ⟨_, rfl, rfl, by rw [if_neg (by omega)]⟩
  · show jT _ _ 12 _ _ _ _
    refine tl_iload_n rfl rfl ?_
    refine tl_i2l rfl ⟨by omega, by omega⟩ ?_
    refine tl_lconst (z := 0) rfl rfl ?_
    refine tl_aload_n rfl rfl ?_
    refine tl_getr (c := 12) (k9 := 3) (b := 390) rfl rfl rfl rfl ?_
    show jT _ _ 19 _ _ _ _
    refine tl_iload_n rfl rfl ?_
    refine tl_s1i (c_slotAt l _ k) rfl rfl rfl (Nat.le_of_ble_eq_true rfl) (fun zs hs9 ps => ?_)
    obtain ⟨rfl, rfl⟩ := ps
    have hs3 := hI.slot (f := k) (by omega) (by omega)
    refine tl_iald (n := 1362) rfl rfl rfl (by omega) (by omega) ?_
    refine tl_i2l rfl ⟨by omega, by omega⟩ ?_
    refine tl_lconst (z := 1) rfl rfl ?_
    refine tl_lsub rfl ?_
    refine tl_s3i (c_in l _ _ _ _ ⟨by omega, by omega⟩ ⟨by omega, by omega⟩ ⟨by omega, by omega⟩) rfl rfl rfl (Nat.le_of_ble_eq_true rfl) (fun z3 h3 p3 => ?_)
    obtain ⟨rfl, p3⟩ := p3
    have b3 : z3 = 0 ∨ z3 = 1 := by rw [p3]; split <;> omega
    show jT _ _ 30 _ _ _ _
    refine tl_if_eq (tgt := 49) rfl rfl ⟨by omega, by omega⟩ (fun c2 => ?_) (fun c2 => ?_)
    · skip
      refine tl_iconst rfl ?_
      refine tl_iret rfl ?_
      -- leaf 1 at 50
      exact ⟨_, rfl, rfl, by rw [if_neg (by omega)]⟩
    · show jT _ _ 33 _ _ _ _
      refine tl_aload_n rfl rfl ?_
      refine tl_getr (c := 12) (k9 := 3) (b := 390) rfl rfl rfl rfl ?_
      refine tl_iload_n rfl rfl ?_
      refine tl_s1i (c_slotAt l _ k) rfl rfl rfl (Nat.le_of_ble_eq_true rfl) (fun zs hs9 ps => ?_)
      obtain ⟨rfl, rfl⟩ := ps
      have hs3 := hI.slot (f := k) (by omega) (by omega)
      show jT _ _ 41 _ _ _ _
      refine tl_iconst rfl ?_
      refine tl_iadd rfl ?_
      refine tl_iload_n rfl rfl ?_
      refine tl_iadd rfl ?_
      refine tl_iald (n := 1362) rfl rfl rfl (by omega) (by omega) ?_
      refine tl_goto (tgt := 50) rfl rfl ?_
      refine tl_iret rfl ?_
      -- leaf 2 at 50
      exact ⟨_, rfl, rfl, by rw [if_pos (by omega), show (200 + 301 * k + 1 + i).toNat = (201 + 301 * k).toNat + i.toNat by omega]⟩
/-- terms(what, value) -/
def Tterms (s : jH) (x v : Int) : jH := if (0 ≤ x ∧ x ≤ 4) ∧ jlow x.toNat ≤ v ∧ v ≤ jhigh x.toNat then Ttell (hs s 390 x.toNat v) (s 390 x.toNat) else Ttell s (-1)
def Aterms (s : jH) (x v : Int) : Int := if (0 ≤ x ∧ x ≤ 4) ∧ jlow x.toNat ≤ v ∧ v ≤ jhigh x.toNat then s 390 x.toNat else -1
set_option maxRecDepth 20000 in
set_option maxHeartbeats 1000000 in
theorem k_terms (l : Launch) (h s : jH) (t a v : Int) (hI : IC h s t) (ha : jr a) (hv : jr v) : cI l 137 [.ref 0, .int (jI a), .int (jI v)] h (fun z h' => z = Aterms s a v ∧ IC h' (Tterms s a v) (t + 1) ∧ ∀ x, 388 ≤ x → h' x = h x) := by
  have a1 := ha.1
  have a2 := ha.2
  have v1 := hv.1
  have v2 := hv.2
  have n1 := hI.2.2.2.1
  refine cI.of rfl rfl ?_
  refine tl_iload_n rfl rfl ?_
  refine tl_if_lt (tgt := 9) rfl rfl ⟨by omega, by omega⟩ (fun c1 => ?_) (fun c1 => ?_)
  · skip
    refine tl_aload_n rfl rfl ?_
    refine tl_iconst rfl ?_
    refine tl_v1i (c9 := 11) (k_refuse l _ _ (by omega) (by omega)) rfl rfl rfl rfl rfl (Nat.le_of_ble_eq_true rfl) (fun zr hr pr => ?_)
    obtain ⟨rfl, rfl⟩ := pr
    refine tl_iret rfl ?_
    -- leaf 0 at 14
    refine ⟨_, rfl, ?_, ?_, ?_⟩
    · rw [Aterms, if_neg (by omega)]
    · rw [Tterms, if_neg (by omega)]; exact hI.refuse (by omega) (by omega)
    · intro x hx; rw [hs_O (by omega), hs_O (by omega)]
  · show jT _ _ 4 _ _ _ _
    show jT _ _ 4 _ _ _ _
    refine tl_iload_n rfl rfl ?_
    refine tl_iconst rfl ?_
    refine tl_icmp_lt (tgt := 15) rfl rfl ⟨by omega, by omega⟩ ⟨by omega, by omega⟩ (fun c2 => ?_) (fun c2 => ?_)
    · skip
      refine tl_iload_n rfl rfl ?_
      refine tl_gets rfl ?_
      refine tl_iload_n rfl rfl ?_
      refine tl_iald_st (q := 0) rfl (by decide) (by omega) (by omega) ?_
      rw [jst0]
      have j1 := jlh a (by omega) (by omega)
      show jT _ _ 21 _ _ _ _
      refine tl_icmp_lt (tgt := 33) rfl rfl ⟨by omega, by omega⟩ ⟨by omega, by omega⟩ (fun c3 => ?_) (fun c3 => ?_)
      · skip
        refine tl_aload_n rfl rfl ?_
        refine tl_iconst rfl ?_
        refine tl_v1i (c9 := 11) (k_refuse l _ _ (by omega) (by omega)) rfl rfl rfl rfl rfl (Nat.le_of_ble_eq_true rfl) (fun zr hr pr => ?_)
        obtain ⟨rfl, rfl⟩ := pr
        refine tl_iret rfl ?_
        -- leaf 1 at 38
        refine ⟨_, rfl, ?_, ?_, ?_⟩
        · rw [Aterms, if_neg (by omega)]
        · rw [Tterms, if_neg (by omega)]; exact hI.refuse (by omega) (by omega)
        · intro x hx; rw [hs_O (by omega), hs_O (by omega)]
      · show jT _ _ 24 _ _ _ _
        refine tl_iload_n rfl rfl ?_
        refine tl_gets rfl ?_
        show jT _ _ 28 _ _ _ _
        refine tl_iload_n rfl rfl ?_
        refine tl_iald_st (q := 1) rfl (by decide) (by omega) (by omega) ?_
        rw [jst1]
        refine tl_icmp_le (tgt := 39) rfl rfl ⟨by omega, by omega⟩ ⟨by omega, by omega⟩ (fun c4 => ?_) (fun c4 => ?_)
        · skip
          refine tl_aload_n rfl rfl ?_
          refine tl_getr (c := 11) (k9 := 6) (b := 311) rfl rfl rfl rfl ?_
          refine tl_iload_n rfl rfl ?_
          refine tl_iald (n := 5) rfl rfl rfl (by omega) (by omega) ?_
          have n2 := n1 a.toNat (by omega)
          show jT _ _ 45 _ _ _ _
          refine tl_istore_n rfl (Nat.le_of_ble_eq_true rfl) rfl ?_
          refine tl_aload_n rfl rfl ?_
          refine tl_getr (c := 11) (k9 := 6) (b := 311) rfl rfl rfl rfl ?_
          refine tl_iload_n rfl rfl ?_
          refine tl_iload_n rfl rfl ?_
          refine tl_iast (n := 5) rfl rfl rfl (by omega) (by omega) ?_
          refine tl_aload_n rfl rfl ?_
          show jT _ _ 54 _ _ _ _
          refine tl_iload_n rfl rfl ?_
          refine tl_v1i (c9 := 11) (k_accept l _ _) rfl rfl rfl rfl rfl (Nat.le_of_ble_eq_true rfl) (fun za ha pa => ?_)
          obtain ⟨rfl, rfl⟩ := pa
          refine tl_iret rfl ?_
          -- leaf 2 at 58
          refine ⟨_, rfl, ?_, ?_, ?_⟩
          · rw [Aterms, if_pos (by omega)]; exact n2.1
          · rw [Tterms, if_pos (by omega)]
            refine IC.accept ?_ (by omega)
            obtain ⟨hR, hU, hT, n3, n4⟩ := hI
            refine ⟨?_, ?_, ?_, fun k hk => ?_, ?_⟩
            · exact (hR.congr (R' := hs s 390 a.toNat v 390) (fun i i1 i2 => hs_k (by omega))).keep (fun x h1 h2 => hs_O (by omega))
            · exact IC.undo_same (s := hs s 390 a.toNat v) hU (hs_o (by decide)) (hs_o (by decide)) (hs_O (by decide)) (fun x h1 h2 => hs_O (by omega))
            · exact hT.keep (hs_O (by decide)) (hs_O (by decide)) (hs_o (by decide)) (hs_O (by decide))
            · by_cases e : k = a.toNat
              · subst e; rw [hs_s, hs_s]; omega
              · rw [hs_k e, hs_k e]; exact n3 k hk
            · rw [hs_O (show (0 : Nat) ≠ 311 by decide), hs_O (show (312 : Nat) ≠ 311 by decide), hs_O (show (356 : Nat) ≠ 311 by decide), hs_O (show (362 : Nat) ≠ 311 by decide), hs_O (show (388 : Nat) ≠ 390 by decide), hs_O (show (389 : Nat) ≠ 390 by decide)]; exact n4
          · intro x hx; rw [hs_O (by omega), hs_O (by omega)]
        · show jT _ _ 33 _ _ _ _
          refine tl_aload_n rfl rfl ?_
          refine tl_iconst rfl ?_
          refine tl_v1i (c9 := 11) (k_refuse l _ _ (by omega) (by omega)) rfl rfl rfl rfl rfl (Nat.le_of_ble_eq_true rfl) (fun zr hr pr => ?_)
          obtain ⟨rfl, rfl⟩ := pr
          refine tl_iret rfl ?_
          -- leaf 3 at 38
          refine ⟨_, rfl, ?_, ?_, ?_⟩
          · rw [Aterms, if_neg (by omega)]
          · rw [Tterms, if_neg (by omega)]; exact hI.refuse (by omega) (by omega)
          · intro x hx; rw [hs_O (by omega), hs_O (by omega)]
    · show jT _ _ 9 _ _ _ _
      show jT _ _ 9 _ _ _ _
      refine tl_aload_n rfl rfl ?_
      refine tl_iconst rfl ?_
      refine tl_v1i (c9 := 11) (k_refuse l _ _ (by omega) (by omega)) rfl rfl rfl rfl rfl (Nat.le_of_ble_eq_true rfl) (fun zr hr pr => ?_)
      obtain ⟨rfl, rfl⟩ := pr
      refine tl_iret rfl ?_
      -- leaf 4 at 14
      refine ⟨_, rfl, ?_, ?_, ?_⟩
      · rw [Aterms, if_neg (by omega)]
      · rw [Tterms, if_neg (by omega)]; exact hI.refuse (by omega) (by omega)
      · intro x hx; rw [hs_O (by omega), hs_O (by omega)]
set_option maxRecDepth 20000 in
set_option maxHeartbeats 1000000 in
theorem r_terms_t (l : Launch) (g m : jH) (t a v lo hi9 : Int) (hI : IC g m t) (ha : jr a) (hv : jr v) (hlo : jr lo) (hhi : jr hi9) (hj : 0 ≤ a → a ≤ 4 → lo = jlow a.toNat ∧ hi9 = jhigh a.toNat) : jT l 216 43 [some (.ref 388), some (.int (jI a)), some (.int (jI v)), some (.int (jI lo)), some (.int (jI hi9)), none] [] m (fun r h' => ∃ z, r = some (.int (jI z)) ∧ z = Aterms m a v ∧ h' = Tterms m a v) := by
  have a1 := ha.1
  have a2 := ha.2
  have v1 := hv.1
  have v2 := hv.2
  have lo1 := hlo.1
  have lo2 := hlo.2
  have hi1 := hhi.1
  have hi2 := hhi.2
  have n1 := hI.2.2.2.1
  refine tl_iload_n rfl rfl ?_
  refine tl_i2l rfl ⟨by omega, by omega⟩ ?_
  refine tl_lconst (z := 0) rfl rfl ?_
  refine tl_ldc2 (z := 4) rfl (by decide +kernel) ?_
  refine tl_s3i (c_in l _ _ _ _ ⟨by omega, by omega⟩ ⟨by omega, by omega⟩ ⟨by omega, by omega⟩) rfl rfl rfl (Nat.le_of_ble_eq_true rfl) (fun z1 h1 p1 => ?_)
  obtain ⟨rfl, p1⟩ := p1
  have b1 : z1 = 0 ∨ z1 = 1 := by rw [p1]; split <;> omega
  refine tl_if_eq (tgt := 68) rfl rfl ⟨by omega, by omega⟩ (fun c1 => ?_) (fun c1 => ?_)
  · skip
    show jT _ _ 68 _ _ _ _
    refine tl_aload_n rfl rfl ?_
    refine tl_iconst rfl ?_
    refine tl_v1i (c9 := 12) (c_tell l _ _ ⟨by omega, by omega⟩ (by omega)) rfl rfl rfl rfl rfl (Nat.le_of_ble_eq_true rfl) (fun zt ht pt => ?_)
    obtain ⟨rfl, pt⟩ := pt
    refine tl_iret rfl ?_
    -- leaf 0 at 73
    first
      | (exfalso; omega)
      | (refine ⟨_, rfl, ?_, ?_⟩
         · rw [Aterms, if_neg (by omega)]
         · rw [Tterms, if_neg (by omega)]; exact pt)
      | (refine ⟨_, rfl, ?_, ?_⟩
         · rw [Aterms, if_pos (by omega)]
         · rw [Tterms, if_pos (by omega)]; exact pt)
  · show jT _ _ 55 _ _ _ _
    refine tl_iload_n rfl rfl ?_
    refine tl_i2l rfl ⟨by omega, by omega⟩ ?_
    refine tl_iload_n rfl rfl ?_
    show jT _ _ 58 _ _ _ _
    refine tl_i2l rfl ⟨by omega, by omega⟩ ?_
    refine tl_iload rfl rfl ?_
    refine tl_i2l rfl ⟨by omega, by omega⟩ ?_
    refine tl_s3i (c_in l _ _ _ _ ⟨by omega, by omega⟩ ⟨by omega, by omega⟩ ⟨by omega, by omega⟩) rfl rfl rfl (Nat.le_of_ble_eq_true rfl) (fun z2 h2 p2 => ?_)
    obtain ⟨rfl, p2⟩ := p2
    have b2 : z2 = 0 ∨ z2 = 1 := by rw [p2]; split <;> omega
    have j0 := hj (by omega) (by omega)
    have j1 := jlh a (by omega) (by omega)
    refine tl_if_ne (tgt := 74) rfl rfl ⟨by omega, by omega⟩ (fun c2 => ?_) (fun c2 => ?_)
    · skip
      refine tl_aload_n rfl rfl ?_
      refine tl_getr (c := 12) (k9 := 3) (b := 390) rfl rfl rfl rfl ?_
      show jT _ _ 78 _ _ _ _
      refine tl_iload_n rfl rfl ?_
      refine tl_iald (n := 1362) rfl rfl rfl (by omega) (by omega) ?_
      have n2 := n1 a.toNat (by omega)
      refine tl_istore rfl (Nat.le_of_ble_eq_true rfl) rfl ?_
      refine tl_aload_n rfl rfl ?_
      refine tl_getr (c := 12) (k9 := 3) (b := 390) rfl rfl rfl rfl ?_
      refine tl_iload_n rfl rfl ?_
      refine tl_iload_n rfl rfl ?_
      show jT _ _ 88 _ _ _ _
      refine tl_iast (n := 1362) rfl rfl rfl (by omega) (by omega) ?_
      refine tl_aload_n rfl rfl ?_
      refine tl_iload rfl rfl ?_
      refine tl_v1i (c9 := 12) (c_tell l _ _ ⟨by omega, by omega⟩ (by omega)) rfl rfl rfl rfl rfl (Nat.le_of_ble_eq_true rfl) (fun zt ht pt => ?_)
      obtain ⟨rfl, pt⟩ := pt
      refine tl_iret rfl ?_
      -- leaf 1 at 95
      first
        | (exfalso; omega)
        | (refine ⟨_, rfl, ?_, ?_⟩
           · rw [Aterms, if_neg (by omega)]
           · rw [Tterms, if_neg (by omega)]; exact pt)
        | (refine ⟨_, rfl, ?_, ?_⟩
           · rw [Aterms, if_pos (by omega)]
           · rw [Tterms, if_pos (by omega)]; exact pt)
    · show jT _ _ 68 _ _ _ _
      refine tl_aload_n rfl rfl ?_
      refine tl_iconst rfl ?_
      show jT _ _ 70 _ _ _ _
      refine tl_v1i (c9 := 12) (c_tell l _ _ ⟨by omega, by omega⟩ (by omega)) rfl rfl rfl rfl rfl (Nat.le_of_ble_eq_true rfl) (fun zt ht pt => ?_)
      obtain ⟨rfl, pt⟩ := pt
      refine tl_iret rfl ?_
      -- leaf 2 at 73
      first
        | (exfalso; omega)
        | (refine ⟨_, rfl, ?_, ?_⟩
           · rw [Aterms, if_neg (by omega)]
           · rw [Tterms, if_neg (by omega)]; exact pt)
        | (refine ⟨_, rfl, ?_, ?_⟩
           · rw [Aterms, if_pos (by omega)]
           · rw [Tterms, if_pos (by omega)]; exact pt)
set_option maxRecDepth 20000 in
set_option maxHeartbeats 1000000 in
theorem r_terms (l : Launch) (g h : jH) (t a v : Int) (hI0 : IC g h t) (ha : jr a) (hv : jr v) : cI l 216 [.ref 388, .int (jI a), .int (jI v)] h (fun z h' => z = Aterms (Tz h) a v ∧ h' = Tterms (Tz h) a v) := by
  have a1 := ha.1
  have a2 := ha.2
  have v1 := hv.1
  have v2 := hv.2
  refine cI.of rfl rfl ?_
  refine tl_aload_n rfl rfl ?_
  refine tl_iconst rfl ?_
  refine tl_puti (c := 12) (k9 := 0) rfl rfl rfl rfl ?_
  have hI := hI0.z
  change jT _ _ _ _ _ (Tz h) _
  generalize Tz h = m at hI ⊢
  refine tl_iload_n rfl rfl ?_
  refine tl_if_ne (tgt := 13) rfl rfl ⟨by omega, by omega⟩ (fun c1 => ?_) (fun c1 => ?_)
  · skip
    refine tl_iload_n rfl rfl ?_
    show jT _ _ 14 _ _ _ _
    refine tl_iconst rfl ?_
    refine tl_icmp_eq (tgt := 23) rfl rfl ⟨by omega, by omega⟩ ⟨by omega, by omega⟩ (fun c2 => ?_) (fun c2 => ?_)
    · skip
      refine tl_iconst rfl ?_
      refine tl_goto (tgt := 28) rfl rfl ?_
      refine tl_istore_n rfl (Nat.le_of_ble_eq_true rfl) rfl ?_
      refine tl_iload_n rfl rfl ?_
      refine tl_iconst rfl ?_
      show jT _ _ 31 _ _ _ _
      refine tl_icmp_ne (tgt := 39) rfl rfl ⟨by omega, by omega⟩ ⟨by omega, by omega⟩ (fun c3 => ?_) (fun c3 => ?_)
      · skip
        refine tl_bipush rfl rfl ?_
        refine tl_istore rfl (Nat.le_of_ble_eq_true rfl) rfl ?_
        show jT _ _ 43 _ _ _ _
        -- leaf 0 at 43
        refine r_terms_t l g m t a v _ _ hI ha hv ⟨by decide, by decide⟩ ⟨by decide, by decide⟩ (fun e1 e2 => ?_)
        have j1 := jlh a e1 e2
        omega
      · show jT _ _ 34 _ _ _ _
        refine tl_bipush rfl rfl ?_
        refine tl_goto (tgt := 41) rfl rfl ?_
        refine tl_istore rfl (Nat.le_of_ble_eq_true rfl) rfl ?_
        show jT _ _ 43 _ _ _ _
        -- leaf 1 at 43
        refine r_terms_t l g m t a v _ _ hI ha hv ⟨by decide, by decide⟩ ⟨by decide, by decide⟩ (fun e1 e2 => ?_)
        have j1 := jlh a e1 e2
        omega
    · show jT _ _ 18 _ _ _ _
      refine tl_iload_n rfl rfl ?_
      show jT _ _ 19 _ _ _ _
      refine tl_iconst rfl ?_
      refine tl_icmp_ne (tgt := 27) rfl rfl ⟨by omega, by omega⟩ ⟨by omega, by omega⟩ (fun c4 => ?_) (fun c4 => ?_)
      · skip
        refine tl_iconst rfl ?_
        refine tl_istore_n rfl (Nat.le_of_ble_eq_true rfl) rfl ?_
        refine tl_iload_n rfl rfl ?_
        refine tl_iconst rfl ?_
        refine tl_icmp_ne (tgt := 39) rfl rfl ⟨by omega, by omega⟩ ⟨by omega, by omega⟩ (fun c5 => ?_) (fun c5 => ?_)
        · skip
          show jT _ _ 39 _ _ _ _
          refine tl_bipush rfl rfl ?_
          refine tl_istore rfl (Nat.le_of_ble_eq_true rfl) rfl ?_
          show jT _ _ 43 _ _ _ _
          -- leaf 2 at 43
          refine r_terms_t l g m t a v _ _ hI ha hv ⟨by decide, by decide⟩ ⟨by decide, by decide⟩ (fun e1 e2 => ?_)
          have j1 := jlh a e1 e2
          omega
        · show jT _ _ 34 _ _ _ _
          refine tl_bipush rfl rfl ?_
          refine tl_goto (tgt := 41) rfl rfl ?_
          refine tl_istore rfl (Nat.le_of_ble_eq_true rfl) rfl ?_
          show jT _ _ 43 _ _ _ _
          -- leaf 3 at 43
          refine r_terms_t l g m t a v _ _ hI ha hv ⟨by decide, by decide⟩ ⟨by decide, by decide⟩ (fun e1 e2 => ?_)
          have j1 := jlh a e1 e2
          omega
      · show jT _ _ 23 _ _ _ _
        refine tl_iconst rfl ?_
        refine tl_goto (tgt := 28) rfl rfl ?_
        show jT _ _ 28 _ _ _ _
        refine tl_istore_n rfl (Nat.le_of_ble_eq_true rfl) rfl ?_
        refine tl_iload_n rfl rfl ?_
        refine tl_iconst rfl ?_
        refine tl_icmp_ne (tgt := 39) rfl rfl ⟨by omega, by omega⟩ ⟨by omega, by omega⟩ (fun c6 => ?_) (fun c6 => ?_)
        · skip
          refine tl_bipush rfl rfl ?_
          refine tl_istore rfl (Nat.le_of_ble_eq_true rfl) rfl ?_
          show jT _ _ 43 _ _ _ _
          -- leaf 4 at 43
          refine r_terms_t l g m t a v _ _ hI ha hv ⟨by decide, by decide⟩ ⟨by decide, by decide⟩ (fun e1 e2 => ?_)
          have j1 := jlh a e1 e2
          omega
        · show jT _ _ 34 _ _ _ _
          refine tl_bipush rfl rfl ?_
          show jT _ _ 36 _ _ _ _
          refine tl_goto (tgt := 41) rfl rfl ?_
          refine tl_istore rfl (Nat.le_of_ble_eq_true rfl) rfl ?_
          show jT _ _ 43 _ _ _ _
          -- leaf 5 at 43
          refine r_terms_t l g m t a v _ _ hI ha hv ⟨by decide, by decide⟩ ⟨by decide, by decide⟩ (fun e1 e2 => ?_)
          have j1 := jlh a e1 e2
          omega
  · show jT _ _ 9 _ _ _ _
    refine tl_iconst rfl ?_
    refine tl_goto (tgt := 28) rfl rfl ?_
    refine tl_istore_n rfl (Nat.le_of_ble_eq_true rfl) rfl ?_
    refine tl_iload_n rfl rfl ?_
    refine tl_iconst rfl ?_
    show jT _ _ 31 _ _ _ _
    refine tl_icmp_ne (tgt := 39) rfl rfl ⟨by omega, by omega⟩ ⟨by omega, by omega⟩ (fun c7 => ?_) (fun c7 => ?_)
    · skip
      refine tl_bipush rfl rfl ?_
      refine tl_istore rfl (Nat.le_of_ble_eq_true rfl) rfl ?_
      show jT _ _ 43 _ _ _ _
      -- leaf 6 at 43
      refine r_terms_t l g m t a v _ _ hI ha hv ⟨by decide, by decide⟩ ⟨by decide, by decide⟩ (fun e1 e2 => ?_)
      have j1 := jlh a e1 e2
      omega
    · show jT _ _ 34 _ _ _ _
      refine tl_bipush rfl rfl ?_
      refine tl_goto (tgt := 41) rfl rfl ?_
      refine tl_istore rfl (Nat.le_of_ble_eq_true rfl) rfl ?_
      show jT _ _ 43 _ _ _ _
      -- leaf 7 at 43
      refine r_terms_t l g m t a v _ _ hI ha hv ⟨by decide, by decide⟩ ⟨by decide, by decide⟩ (fun e1 e2 => ?_)
      have j1 := jlh a e1 e2
      omega
