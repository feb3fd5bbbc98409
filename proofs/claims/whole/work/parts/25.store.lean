/-! a call as a whole: what it answers and what it leaves; a row laid into a file or a slot; file, bring -/
def dT (s : jH) (v : Int) : Int × jH := (v, Ttell s v)
def AgD (D D' : Int × jH) : Prop := D.1 = D'.1 ∧ Ag D.2 D'.2
theorem Ag.d {s s' : jH} (h : Ag s s') (v : Int) : AgD (dT s v) (dT s' v) := ⟨rfl, h.tell (v := v) rfl⟩
def PK (h : jH) (t : Int) (D : Int × jH) : Int → jH → Prop := fun z h' => z = D.1 ∧ IC h' D.2 (t + 1) ∧ ∀ x, 388 ≤ x → h' x = h x
def PR (D : Int × jH) : Int → jH → Prop := fun z h' => z = D.1 ∧ h' = D.2
theorem PK.ref {h s : jH} {t v : Int} (hI : IC h s t) (v1 : -6 ≤ v) (v2 : v ≤ -1) : PK h t (dT s v) v (hs (hs h 0 8 v) 312 (-1 - v).toNat (h 312 (-1 - v).toNat + 1)) := ⟨rfl, hI.refuse v1 v2, fun x hx => by rw [hs_O (by omega), hs_O (by omega)]⟩
theorem PK.acc {h h1 s : jH} {t v : Int} (hI : IC h1 s t) (v0 : 0 ≤ v) (fr : ∀ x, 388 ≤ x → h1 x = h x) : PK h t (dT s v) v (hs h1 0 8 0) := ⟨rfl, hI.accept v0, fun x hx => by rw [hs_O (by omega), fr x hx]⟩
theorem RS.file {h h' : jH} {R R' : Nat → Int} (hR : RS h 1 R) (f : Nat) (hf : f < 3) (hF : RSf h' (2 + 2 * f) R' (5 + 65 * f)) (e : ∀ i, 5 ≤ i → (i < 5 + 65 * f ∨ 5 + 65 * f + 65 ≤ i) → R' i = R i) (ex : ∀ x, 1 ≤ x → x < 19 → x ≠ 2 + 2 * f → x ≠ 3 + 2 * f → h' x = h x) (hrun : f = 0 → R 1167 = 0) : RS h' 1 R' := by
  obtain ⟨a, b, c, d1, d2, d3, d4, d5⟩ := hR
  refine ⟨fun f' hf' => ?_, fun k hk => ?_, fun i hi => ?_, ?_⟩
  · by_cases ef : f' = f
    · subst ef
      rw [show 1 + 1 + 2 * f' = 2 + 2 * f' by omega]
      exact hF
    · obtain ⟨a1, a2, a3, a4⟩ := a f' hf'
      have r0 : R' (5 + 65 * f') = R (5 + 65 * f') := e _ (by omega) (by omega)
      refine ⟨?_, by rw [r0]; exact a2, by rw [r0]; exact a3, fun i hi => ?_⟩
      · rw [ex _ (by omega) (by omega) (by omega) (by omega), r0]; exact a1
      · rw [r0] at hi
        rw [ex _ (by omega) (by omega) (by omega) (by omega), e _ (by omega) (by omega)]
        exact a4 i hi
  · obtain ⟨a1, a2, a3⟩ := b k hk
    have r0 : R' (200 + 301 * k) = R (200 + 301 * k) := e _ (by omega) (by omega)
    refine ⟨?_, by rw [r0]; exact a2, fun i hi => ?_⟩
    · rw [ex _ (by omega) (by omega) (by omega) (by omega), r0]; exact a1
    · rw [r0] at hi
      rw [ex _ (by omega) (by omega) (by omega) (by omega), e _ (by omega) (by omega)]
      exact a3 i hi
  · rw [ex _ (by omega) (by omega) (by omega) (by omega), e _ (by omega) (by omega)]
    exact c i hi
  · have e1 := ex 1 (by omega) (by omega) (by omega) (by omega)
    have r7 : R' 1167 = R 1167 := e _ (by omega) (by omega)
    refine ⟨by rw [r7]; exact d1, by rw [e1]; exact d2, by rw [e1]; exact d3, fun h7 => by rw [e1]; rw [r7] at h7; exact d4 h7, fun h7 => ?_⟩
    rw [r7] at h7
    have f0 : f ≠ 0 := fun z => by have := hrun z; omega
    obtain ⟨x1, x2, x3, x4, x5, x6, x7⟩ := d5 h7
    have r5 : R' 5 = R 5 := e _ (by omega) (by omega)
    rw [r5, e 1168 (by omega) (by omega), e 1169 (by omega) (by omega), e1]
    refine ⟨x1, x2, x3, x4, x5, x6, fun i hi => ?_⟩
    have y := x7 i hi
    rw [ex _ (by omega) (by omega) (by omega) (by omega), ex _ (by omega) (by omega) (by omega) (by omega), ex _ (by omega) (by omega) (by omega) (by omega), e (1170 + 3 * i) (by omega) (by omega), e (1171 + 3 * i) (by omega) (by omega), e (1172 + 3 * i) (by omega) (by omega)]
    exact y
theorem RS.slot {h h' : jH} {R R' : Nat → Int} (hR : RS h 1 R) (k : Nat) (hk : k < 3) (hF : RSs h' (9 + 2 * k) R' (200 + 301 * k)) (e : ∀ i, 5 ≤ i → (i < 200 + 301 * k ∨ 200 + 301 * k + 301 ≤ i) → R' i = R i) (ex : ∀ x, 1 ≤ x → x < 19 → x ≠ 9 + 2 * k → x ≠ 10 + 2 * k → h' x = h x) : RS h' 1 R' := by
  obtain ⟨a, b, c, d1, d2, d3, d4, d5⟩ := hR
  refine ⟨fun f' hf' => ?_, fun k' hk' => ?_, fun i hi => ?_, ?_⟩
  · obtain ⟨a1, a2, a3, a4⟩ := a f' hf'
    have r0 : R' (5 + 65 * f') = R (5 + 65 * f') := e _ (by omega) (by omega)
    refine ⟨?_, by rw [r0]; exact a2, by rw [r0]; exact a3, fun i hi => ?_⟩
    · rw [ex _ (by omega) (by omega) (by omega) (by omega), r0]; exact a1
    · rw [r0] at hi
      rw [ex _ (by omega) (by omega) (by omega) (by omega), e _ (by omega) (by omega)]
      exact a4 i hi
  · by_cases ef : k' = k
    · subst ef
      rw [show 1 + 8 + 2 * k' = 9 + 2 * k' by omega]
      exact hF
    · obtain ⟨a1, a2, a3⟩ := b k' hk'
      have r0 : R' (200 + 301 * k') = R (200 + 301 * k') := e _ (by omega) (by omega)
      refine ⟨?_, by rw [r0]; exact a2, fun i hi => ?_⟩
      · rw [ex _ (by omega) (by omega) (by omega) (by omega), r0]; exact a1
      · rw [r0] at hi
        rw [ex _ (by omega) (by omega) (by omega) (by omega), e _ (by omega) (by omega)]
        exact a3 i hi
  · rw [ex _ (by omega) (by omega) (by omega) (by omega), e _ (by omega) (by omega)]
    exact c i hi
  · have e1 := ex 1 (by omega) (by omega) (by omega) (by omega)
    have r7 : R' 1167 = R 1167 := e _ (by omega) (by omega)
    refine ⟨by rw [r7]; exact d1, by rw [e1]; exact d2, by rw [e1]; exact d3, fun h7 => by rw [e1]; rw [r7] at h7; exact d4 h7, fun h7 => ?_⟩
    rw [r7] at h7
    obtain ⟨x1, x2, x3, x4, x5, x6, x7⟩ := d5 h7
    have r5 : R' 5 = R 5 := e _ (by omega) (by omega)
    rw [r5, e 1168 (by omega) (by omega), e 1169 (by omega) (by omega), e1]
    refine ⟨x1, x2, x3, x4, x5, x6, fun i hi => ?_⟩
    have y := x7 i hi
    rw [ex _ (by omega) (by omega) (by omega) (by omega), ex _ (by omega) (by omega) (by omega) (by omega), ex _ (by omega) (by omega) (by omega) (by omega), e (1170 + 3 * i) (by omega) (by omega), e (1171 + 3 * i) (by omega) (by omega), e (1172 + 3 * i) (by omega) (by omega)]
    exact y
/-- only the row is another, and of it only n places from o on -/
def Stf (s s' : jH) (o n : Nat) : Prop := (∀ x, x ≠ 390 → s' x = s x) ∧ ∀ i, (i < o ∨ o + n ≤ i) → s' 390 i = s 390 i
theorem IC.only {h h' s s' : jH} {t : Int} (hI : IC h s t) (hR : RS h' 1 (s' 390)) (e : ∀ x, x ≠ 390 → s' x = s x) (e5 : ∀ i, i < 5 → s' 390 i = s 390 i) (fr : ∀ x, x = 0 ∨ (20 ≤ x ∧ x < 313) ∨ x = 356 ∨ x = 362 → h' x = h x) : IC h' s' t :=
  hI.row hR (hI.2.2.1.keep (fr _ (by decide)) (fr _ (by decide)) (by rw [e 388 (by decide)]) (e _ (by decide))) (fr _ (by decide)) (fun x x1 x2 => fr x (by omega)) (fr _ (by decide)) (fr _ (by decide)) (fr _ (by decide)) (fr _ (by decide)) (fun q _ _ => by rw [e 388 (by decide)]) (e _ (by decide)) e5 (e _ (by decide)) (e _ (by decide))
theorem IC.file_upd {h h' s s' : jH} {t : Int} (hI : IC h s t) (f : Nat) (hf : f < 3) (hF : RSf h' (2 + 2 * f) (s' 390) (5 + 65 * f)) (hS : Stf s s' (5 + 65 * f) 65) (fr : ∀ x, x = 0 ∨ (1 ≤ x ∧ x < 313) ∨ x = 356 ∨ x = 362 → x ≠ 2 + 2 * f → x ≠ 3 + 2 * f → h' x = h x) (hrun : f = 0 → s 390 1167 = 0) : IC h' s' t :=
  hI.only (hI.1.file f hf hF (fun i _ h2 => hS.2 i h2) (fun x x1 x2 x3 x4 => fr x (by omega) x3 x4) hrun) hS.1 (fun i hi => hS.2 i (by omega)) (fun x hx => fr x (by omega) (by omega) (by omega))
theorem IC.slot_upd {h h' s s' : jH} {t : Int} (hI : IC h s t) (k : Nat) (hk : k < 3) (hF : RSs h' (9 + 2 * k) (s' 390) (200 + 301 * k)) (hS : Stf s s' (200 + 301 * k) 301) (fr : ∀ x, x = 0 ∨ (1 ≤ x ∧ x < 313) ∨ x = 356 ∨ x = 362 → x ≠ 9 + 2 * k → x ≠ 10 + 2 * k → h' x = h x) : IC h' s' t :=
  hI.only (hI.1.slot k hk hF (fun i _ h2 => hS.2 i h2) (fun x x1 x2 x3 x4 => fr x (by omega) x3 x4)) hS.1 (fun i hi => hS.2 i (by omega)) (fun x hx => fr x (by omega) (by omega) (by omega))
theorem k_store_f (l : Launch) (h s s' : jH) (t : Int) (hI : IC h s t) (f : Nat) (hf : f < 3) {r2 a2 n2 : Nat} (hS2 : RowS r2 a2 n2) (n : Int) (g : Nat → Int) (e1 : h r2 1 = n) (n0 : 0 ≤ n) (n1 : n ≤ 64) (n3 : n ≤ (n2 : Int)) (eg : ∀ i : Nat, (i : Int) < n → h a2 i = g i ∧ byt (g i)) (hrun : f = 0 → s 390 1167 = 0) (hS : Stf s s' (5 + 65 * f) 65) (p0 : s' 390 (5 + 65 * f) = n) (p1 : ∀ i : Nat, (i : Int) < n → s' 390 (5 + 65 * f + 1 + i) = g i) : cV l 106 [.ref (2 + 2 * f), .ref r2] h (fun h' => IC h' s' t ∧ h' (2 + 2 * f) 1 = n ∧ ∀ x, x ≠ 2 + 2 * f → x ≠ 3 + 2 * f → h' x = h x) := by
  refine (c_Row_copy l (RSf_S f hf) hS2 h (by omega) (by omega)).mono (fun h' e => ?_)
  have em : min (h r2 1) ((64 : Nat) : Int) = n := by omega
  rw [em] at e
  have b1 : h' (2 + 2 * f) 1 = n := by rw [e, hw_o (by omega), hs_s]
  have b2 : ∀ x, x ≠ 2 + 2 * f → x ≠ 3 + 2 * f → h' x = h x := fun x x1 x2 => by rw [e, hw_o x2, hs_O x1]
  have b3 : ∀ i : Nat, (i : Int) < n → h' (3 + 2 * f) i = h a2 i := fun i hi => by rw [e, hw_s, va_cpy, if_pos (by omega)]; congr 1; omega
  refine ⟨hI.file_upd f hf ⟨by rw [b1, p0], by rw [p0]; exact n0, by rw [p0]; exact n1, fun i hi => ?_⟩ hS (fun x _ x1 x2 => b2 x x1 x2) hrun, b1, b2⟩
  rw [p0] at hi
  rw [show 2 + 2 * f + 1 = 3 + 2 * f by omega, b3 i hi, p1 i hi]
  exact eg i hi
theorem k_store_s (l : Launch) (h s s' : jH) (t : Int) (hI : IC h s t) (k : Nat) (hk : k < 3) {r2 a2 n2 : Nat} (hS2 : RowS r2 a2 n2) (n : Int) (g : Nat → Int) (e1 : h r2 1 = n) (n0 : 1 ≤ n) (n1 : n ≤ 300) (n3 : n ≤ (n2 : Int)) (eg : ∀ i : Nat, (i : Int) < n → h a2 i = g i ∧ byt (g i)) (hS : Stf s s' (200 + 301 * k) 301) (p0 : s' 390 (200 + 301 * k) = n) (p1 : ∀ i : Nat, (i : Int) < n → s' 390 (200 + 301 * k + 1 + i) = g i) : cV l 106 [.ref (9 + 2 * k), .ref r2] h (fun h' => IC h' s' t ∧ h' (9 + 2 * k) 1 = n ∧ ∀ x, x ≠ 9 + 2 * k → x ≠ 10 + 2 * k → h' x = h x) := by
  refine (c_Row_copy l (RSs_S k hk) hS2 h (by omega) (by omega)).mono (fun h' e => ?_)
  have em : min (h r2 1) ((300 : Nat) : Int) = n := by omega
  rw [em] at e
  have b1 : h' (9 + 2 * k) 1 = n := by rw [e, hw_o (by omega), hs_s]
  have b2 : ∀ x, x ≠ 9 + 2 * k → x ≠ 10 + 2 * k → h' x = h x := fun x x1 x2 => by rw [e, hw_o x2, hs_O x1]
  have b3 : ∀ i : Nat, (i : Int) < n → h' (10 + 2 * k) i = h a2 i := fun i hi => by rw [e, hw_s, va_cpy, if_pos (by omega)]; congr 1; omega
  refine ⟨hI.slot_upd k hk ⟨by rw [b1, p0, if_neg (by omega)], by rw [p0]; exact Or.inr ⟨n0, n1⟩, fun i hi => ?_⟩ hS (fun x _ x1 x2 => b2 x x1 x2), b1, b2⟩
  rw [p0] at hi
  rw [show 9 + 2 * k + 1 = 10 + 2 * k by omega, b3 i hi, p1 i hi]
  exact eg i hi
/-- the tape laid down at o -/
def Tlay0 (s : jH) (o : Nat) : jH := hw s 390 (va_cpy (s 393) (fun i => if i = o then s 388 8 else s 390 i) 0 (o + 1) (s 388 8).toNat)
def Tlay (s : jH) (o : Nat) : jH := hs (Tlay0 s o) 388 8 0
theorem Ag.lay {s s' : jH} (h : Ag s s') (o : Nat) : Ag (Tlay s o) (Tlay s' o) := by
  unfold Tlay Tlay0
  rw [h 388 (by decide), h 390 (by decide), h 393 (by decide)]
  exact (h.w1 rfl).s1 rfl
theorem Tlay0_S {s : jH} {o n : Nat} (hn : (s 388 8).toNat < n) : Stf s (Tlay0 s o) o n := by
  refine ⟨fun x hx => hw_o hx, fun i hi => ?_⟩
  rw [Tlay0, hw_s, va_cpy, if_neg (by omega), if_neg (by omega)]
theorem Tlay0_0 {s : jH} {o : Nat} : Tlay0 s o 390 o = s 388 8 := by rw [Tlay0, hw_s, va_cpy, if_neg (by omega), if_pos rfl]
theorem Tlay0_1 {s : jH} {o i : Nat} (hi : (i : Int) < s 388 8) : Tlay0 s o 390 (o + 1 + i) = s 393 i := by
  rw [Tlay0, hw_s, va_cpy, if_pos (by omega)]
  congr 1
  omega
def Dfile (s : jH) (f : Int) : Int × jH := if f < 0 ∨ 1 < f then dT s (-1) else if s 390 1167 = 1 then dT s (-4) else if 64 < s 388 8 then dT s (-5) else dT (Tlay (Trem s 0) (5 + 65 * f).toNat) (s 388 8)
def Dbring (s : jH) (k : Int) : Int × jH := if k < 0 ∨ 2 < k then dT s (-1) else if s 388 8 = 0 then dT s (-4) else if 300 < s 388 8 then dT s (-5) else dT (Tlay (Trem s 1) (200 + 301 * k).toNat) (s 388 8)
theorem Ag.file {s s' : jH} (h : Ag s s') (f : Int) : AgD (Dfile s f) (Dfile s' f) := by
  unfold Dfile
  rw [h 388 (by decide), h 390 (by decide)]
  split
  · exact h.d _
  · split
    · exact h.d _
    · split
      · exact h.d _
      · exact ((h.rem 0).lay _).d _
theorem Ag.bring {s s' : jH} (h : Ag s s') (f : Int) : AgD (Dbring s f) (Dbring s' f) := by
  unfold Dbring
  rw [h 388 (by decide)]
  split
  · exact h.d _
  · split
    · exact h.d _
    · split
      · exact h.d _
      · exact ((h.rem 1).lay _).d _
set_option maxRecDepth 20000 in
set_option maxHeartbeats 1000000 in
theorem k_file (l : Launch) (h s : jH) (t f : Int) (hI : IC h s t) (hf : jr f) : cI l 141 [.ref 0, .int (jI f)] h (PK h t (Dfile s f)) := by
  have f1 := hf.1
  have f2 := hf.2
  have tp := hI.tape
  refine cI.of rfl rfl ?_
  refine tl_iload_n rfl rfl ?_
  refine tl_if_lt (tgt := 9) rfl rfl ⟨by omega, by omega⟩ (fun c1 => ?_) (fun c1 => ?_)
  · skip
    refine tl_aload_n rfl rfl ?_
    refine tl_iconst rfl ?_
    refine tl_v1i (c9 := 11) (k_refuse l _ _ (by omega) (by omega)) rfl rfl rfl rfl rfl (Nat.le_of_ble_eq_true rfl) (fun zr hr pr => ?_)
    obtain ⟨rfl, rfl⟩ := pr
    refine tl_iret rfl ?_
    -- leaf 0 at 14
    refine ⟨_, rfl, ?_⟩
    rw [Dfile]
    repeat (first | rw [if_pos (by omega)] | rw [if_neg (by omega)])
    exact PK.ref hI (by omega) (by omega)
  · show jT _ _ 4 _ _ _ _
    show jT _ _ 4 _ _ _ _
    refine tl_iload_n rfl rfl ?_
    refine tl_iconst rfl ?_
    refine tl_icmp_le (tgt := 15) rfl rfl ⟨by omega, by omega⟩ ⟨by omega, by omega⟩ (fun c2 => ?_) (fun c2 => ?_)
    · skip
      refine tl_aload_n rfl rfl ?_
      refine tl_getr (c := 11) (k9 := 0) (b := 1) rfl rfl rfl rfl ?_
      refine tl_v0i (c9 := 9) (k_runs l _ _ hI.1) rfl rfl rfl rfl rfl (Nat.le_of_ble_eq_true rfl) (fun zu hu pu => ?_)
      obtain ⟨rfl, pu⟩ := pu
      have ru := hI.run01
      refine tl_if_eq (tgt := 32) rfl rfl ⟨by omega, by omega⟩ (fun c3 => ?_) (fun c3 => ?_)
      · skip
        show jT _ _ 32 _ _ _ _
        refine tl_aload_n rfl rfl ?_
        refine tl_getr (c := 11) (k9 := 5) (b := 309) rfl rfl rfl rfl ?_
        refine tl_geti (c := 8) (k9 := 1) rfl rfl rfl ?_
        refine tl_bipush rfl rfl ?_
        refine tl_icmp_le (tgt := 51) rfl rfl ⟨by omega, by omega⟩ ⟨by omega, by omega⟩ (fun c4 => ?_) (fun c4 => ?_)
        · skip
          refine tl_aload_n rfl rfl ?_
          refine tl_iconst rfl ?_
          show jT _ _ 53 _ _ _ _
          refine tl_v1v (c9 := 11) (k_keep l _ s t 0 hI (by decide) (by decide)) rfl rfl rfl rfl rfl (Nat.le_of_ble_eq_true rfl) (fun h1 p1 => ?_)
          obtain ⟨i1, f1⟩ := p1
          have e8 : Trem s 0 388 8 = s 388 8 := Trem_n (by decide)
          have e390 : Trem s 0 390 = s 390 := Trem_o (by decide) (by decide) (by decide)
          have e393 : Trem s 0 393 = s 393 := Trem_o (by decide) (by decide) (by decide)
          have tp1 := i1.tape
          have hS := RSf_S f.toNat (by omega)
          have eo : (5 + 65 * f.toNat : Nat) = (5 + 65 * f).toNat := by omega
          refine tl_aload_n rfl rfl ?_
          refine tl_getr (c := 11) (k9 := 0) (b := 1) rfl rfl rfl rfl ?_
          refine tl_iload_n rfl rfl ?_
          refine tl_v1r (c9 := 9) (c_fileAt_now l _ f (by omega) (by omega)) rfl rfl rfl rfl rfl (Nat.le_of_ble_eq_true rfl) (fun a1 hq1 q1 => ?_)
          obtain ⟨rfl, rfl⟩ := q1
          refine tl_aload_n rfl rfl ?_
          refine tl_getr (c := 11) (k9 := 5) (b := 309) rfl rfl rfl rfl ?_
          show jT _ _ 68 _ _ _ _
          refine tl_v1v (c9 := 8) (k_store_f l _ _ (Tlay0 (Trem s 0) (5 + 65 * f).toNat) t i1 f.toNat (by omega) RT_S (Trem s 0 388 8) (Trem s 0 393) tp1.1 (by omega) (by omega) (by omega) i1.2.2.1.2.2.2 (fun _ => by rw [e390]; omega) (by rw [eo]; exact Tlay0_S (by omega)) (by rw [eo]; exact Tlay0_0) (fun i hi => by rw [eo]; exact Tlay0_1 hi)) rfl rfl rfl hS.1 rfl (Nat.le_of_ble_eq_true rfl) (fun h2 p2 => ?_)
          obtain ⟨i2, b2, f2⟩ := p2
          refine tl_aload_n rfl rfl ?_
          refine tl_getr (c := 11) (k9 := 5) (b := 309) rfl rfl rfl rfl ?_
          refine tl_iconst rfl ?_
          refine tl_puti (c := 8) (k9 := 1) rfl rfl rfl rfl ?_
          refine tl_aload_n rfl rfl ?_
          refine tl_aload_n rfl rfl ?_
          show jT _ _ 81 _ _ _ _
          refine tl_getr (c := 11) (k9 := 0) (b := 1) rfl rfl rfl rfl ?_
          refine tl_iload_n rfl rfl ?_
          refine tl_v1r (c9 := 9) (c_fileAt_now l _ f (by omega) (by omega)) rfl rfl rfl rfl rfl (Nat.le_of_ble_eq_true rfl) (fun a2 hq2 q2 => ?_)
          obtain ⟨rfl, rfl⟩ := q2
          refine tl_geti (c := 8) (k9 := 1) rfl hS.1 rfl ?_
          refine tl_v1i (c9 := 11) (k_accept l _ _) rfl rfl rfl rfl rfl (Nat.le_of_ble_eq_true rfl) (fun za ha pa => ?_)
          obtain ⟨rfl, rfl⟩ := pa
          refine tl_iret rfl ?_
          -- leaf 1 at 94
          refine ⟨_, rfl, ?_⟩
          rw [Dfile]
          repeat (first | rw [if_pos (by omega)] | rw [if_neg (by omega)])
          have i3 := i2.cutTape (n := 0) (by omega) (by rw [show Tlay0 (Trem s 0) (5 + 65 * f).toNat 388 8 = Trem s 0 388 8 by rw [Tlay0, hw_o (by decide)]]; omega)
          rw [hs_o (show 2 + 2 * f.toNat ≠ 309 by omega), b2, e8]
          exact PK.acc i3 (by omega) (fun x hx => by rw [hs_O (by omega), f2 x (by omega) (by omega), f1 x (by omega)])
        · show jT _ _ 44 _ _ _ _
          refine tl_aload_n rfl rfl ?_
          show jT _ _ 45 _ _ _ _
          refine tl_bipush rfl rfl ?_
          refine tl_v1i (c9 := 11) (k_refuse l _ _ (by omega) (by omega)) rfl rfl rfl rfl rfl (Nat.le_of_ble_eq_true rfl) (fun zr hr pr => ?_)
          obtain ⟨rfl, rfl⟩ := pr
          refine tl_iret rfl ?_
          -- leaf 2 at 50
          refine ⟨_, rfl, ?_⟩
          rw [Dfile]
          repeat (first | rw [if_pos (by omega)] | rw [if_neg (by omega)])
          exact PK.ref hI (by omega) (by omega)
      · show jT _ _ 25 _ _ _ _
        refine tl_aload_n rfl rfl ?_
        refine tl_bipush rfl rfl ?_
        refine tl_v1i (c9 := 11) (k_refuse l _ _ (by omega) (by omega)) rfl rfl rfl rfl rfl (Nat.le_of_ble_eq_true rfl) (fun zr hr pr => ?_)
        obtain ⟨rfl, rfl⟩ := pr
        refine tl_iret rfl ?_
        -- leaf 3 at 31
        refine ⟨_, rfl, ?_⟩
        rw [Dfile]
        repeat (first | rw [if_pos (by omega)] | rw [if_neg (by omega)])
        exact PK.ref hI (by omega) (by omega)
    · show jT _ _ 9 _ _ _ _
      show jT _ _ 9 _ _ _ _
      refine tl_aload_n rfl rfl ?_
      refine tl_iconst rfl ?_
      refine tl_v1i (c9 := 11) (k_refuse l _ _ (by omega) (by omega)) rfl rfl rfl rfl rfl (Nat.le_of_ble_eq_true rfl) (fun zr hr pr => ?_)
      obtain ⟨rfl, rfl⟩ := pr
      refine tl_iret rfl ?_
      -- leaf 4 at 14
      refine ⟨_, rfl, ?_⟩
      rw [Dfile]
      repeat (first | rw [if_pos (by omega)] | rw [if_neg (by omega)])
      exact PK.ref hI (by omega) (by omega)
set_option maxRecDepth 20000 in
set_option maxHeartbeats 1000000 in
theorem k_bring (l : Launch) (h s : jH) (t f : Int) (hI : IC h s t) (hf : jr f) : cI l 142 [.ref 0, .int (jI f)] h (PK h t (Dbring s f)) := by
  have f1 := hf.1
  have f2 := hf.2
  have tp := hI.tape
  refine cI.of rfl rfl ?_
  refine tl_iload_n rfl rfl ?_
  refine tl_s1i (k_isSlot l _ f ⟨by omega, by omega⟩) rfl rfl rfl (Nat.le_of_ble_eq_true rfl) (fun zs hs9 ps => ?_)
  obtain ⟨rfl, ps⟩ := ps
  have bs : zs = 0 ∨ zs = 1 := by rw [ps]; split <;> omega
  refine tl_if_ne (tgt := 13) rfl rfl ⟨by omega, by omega⟩ (fun c1 => ?_) (fun c1 => ?_)
  · skip
    refine tl_aload_n rfl rfl ?_
    refine tl_getr (c := 11) (k9 := 5) (b := 309) rfl rfl rfl rfl ?_
    refine tl_geti (c := 8) (k9 := 1) rfl rfl rfl ?_
    show jT _ _ 20 _ _ _ _
    refine tl_if_ne (tgt := 30) rfl rfl ⟨by omega, by omega⟩ (fun c2 => ?_) (fun c2 => ?_)
    · skip
      refine tl_aload_n rfl rfl ?_
      refine tl_getr (c := 11) (k9 := 5) (b := 309) rfl rfl rfl rfl ?_
      refine tl_geti (c := 8) (k9 := 1) rfl rfl rfl ?_
      refine tl_sipush rfl rfl ?_
      refine tl_icmp_le (tgt := 50) rfl rfl ⟨by omega, by omega⟩ ⟨by omega, by omega⟩ (fun c3 => ?_) (fun c3 => ?_)
      · skip
        refine tl_aload_n rfl rfl ?_
        show jT _ _ 51 _ _ _ _
        refine tl_iconst rfl ?_
        refine tl_v1v (c9 := 11) (k_keep l _ s t 1 hI (by decide) (by decide)) rfl rfl rfl rfl rfl (Nat.le_of_ble_eq_true rfl) (fun h1 p1 => ?_)
        obtain ⟨i1, f1⟩ := p1
        have e8 : Trem s 1 388 8 = s 388 8 := Trem_n (by decide)
        have e390 : Trem s 1 390 = s 390 := Trem_o (by decide) (by decide) (by decide)
        have e393 : Trem s 1 393 = s 393 := Trem_o (by decide) (by decide) (by decide)
        have tp1 := i1.tape
        have hS := RSs_S f.toNat (by omega)
        have eo : (200 + 301 * f.toNat : Nat) = (200 + 301 * f).toNat := by omega
        refine tl_aload_n rfl rfl ?_
        refine tl_getr (c := 11) (k9 := 0) (b := 1) rfl rfl rfl rfl ?_
        refine tl_getr (c := 9) (k9 := 3) (b := 8) rfl rfl rfl rfl ?_
        refine tl_iload_n rfl rfl ?_
        refine tl_aald (n := 3) rfl (Or.inl rfl) rfl (by omega) (by omega) (sr8 f.toNat (by omega)) ?_
        show jT _ _ 64 _ _ _ _
        refine tl_aload_n rfl rfl ?_
        refine tl_getr (c := 11) (k9 := 5) (b := 309) rfl rfl rfl rfl ?_
        refine tl_v1v (c9 := 8) (k_store_s l _ _ (Tlay0 (Trem s 1) (200 + 301 * f).toNat) t i1 f.toNat (by omega) RT_S (Trem s 1 388 8) (Trem s 1 393) tp1.1 (by omega) (by omega) (by omega) i1.2.2.1.2.2.2 (by rw [eo]; exact Tlay0_S (by omega)) (by rw [eo]; exact Tlay0_0) (fun i hi => by rw [eo]; exact Tlay0_1 hi)) rfl rfl rfl hS.1 rfl (Nat.le_of_ble_eq_true rfl) (fun h2 p2 => ?_)
        obtain ⟨i2, b2, f2⟩ := p2
        refine tl_aload_n rfl rfl ?_
        refine tl_getr (c := 11) (k9 := 5) (b := 309) rfl rfl rfl rfl ?_
        refine tl_iconst rfl ?_
        refine tl_puti (c := 8) (k9 := 1) rfl rfl rfl rfl ?_
        show jT _ _ 79 _ _ _ _
        refine tl_aload_n rfl rfl ?_
        refine tl_aload_n rfl rfl ?_
        refine tl_getr (c := 11) (k9 := 0) (b := 1) rfl rfl rfl rfl ?_
        refine tl_getr (c := 9) (k9 := 3) (b := 8) rfl rfl rfl rfl ?_
        refine tl_iload_n rfl rfl ?_
        refine tl_aald (n := 3) rfl (Or.inl rfl) rfl (by omega) (by omega) (sr8 f.toNat (by omega)) ?_
        refine tl_geti (c := 8) (k9 := 1) rfl hS.1 rfl ?_
        show jT _ _ 92 _ _ _ _
        refine tl_v1i (c9 := 11) (k_accept l _ _) rfl rfl rfl rfl rfl (Nat.le_of_ble_eq_true rfl) (fun za ha pa => ?_)
        obtain ⟨rfl, rfl⟩ := pa
        refine tl_iret rfl ?_
        -- leaf 0 at 95
        refine ⟨_, rfl, ?_⟩
        rw [Dbring]
        repeat (first | rw [if_pos (by omega)] | rw [if_neg (by omega)])
        have i3 := i2.cutTape (n := 0) (by omega) (by rw [show Tlay0 (Trem s 1) (200 + 301 * f).toNat 388 8 = Trem s 1 388 8 by rw [Tlay0, hw_o (by decide)]]; omega)
        rw [hs_o (show 9 + 2 * f.toNat ≠ 309 by omega), b2, e8]
        exact PK.acc i3 (by omega) (fun x hx => by rw [hs_O (by omega), f2 x (by omega) (by omega), f1 x (by omega)])
      · show jT _ _ 43 _ _ _ _
        refine tl_aload_n rfl rfl ?_
        refine tl_bipush rfl rfl ?_
        refine tl_v1i (c9 := 11) (k_refuse l _ _ (by omega) (by omega)) rfl rfl rfl rfl rfl (Nat.le_of_ble_eq_true rfl) (fun zr hr pr => ?_)
        obtain ⟨rfl, rfl⟩ := pr
        refine tl_iret rfl ?_
        -- leaf 1 at 49
        refine ⟨_, rfl, ?_⟩
        rw [Dbring]
        repeat (first | rw [if_pos (by omega)] | rw [if_neg (by omega)])
        exact PK.ref hI (by omega) (by omega)
    · show jT _ _ 23 _ _ _ _
      refine tl_aload_n rfl rfl ?_
      show jT _ _ 24 _ _ _ _
      refine tl_bipush rfl rfl ?_
      refine tl_v1i (c9 := 11) (k_refuse l _ _ (by omega) (by omega)) rfl rfl rfl rfl rfl (Nat.le_of_ble_eq_true rfl) (fun zr hr pr => ?_)
      obtain ⟨rfl, rfl⟩ := pr
      refine tl_iret rfl ?_
      -- leaf 2 at 29
      refine ⟨_, rfl, ?_⟩
      rw [Dbring]
      repeat (first | rw [if_pos (by omega)] | rw [if_neg (by omega)])
      exact PK.ref hI (by omega) (by omega)
  · show jT _ _ 7 _ _ _ _
    refine tl_aload_n rfl rfl ?_
    refine tl_iconst rfl ?_
    refine tl_v1i (c9 := 11) (k_refuse l _ _ (by omega) (by omega)) rfl rfl rfl rfl rfl (Nat.le_of_ble_eq_true rfl) (fun zr hr pr => ?_)
    obtain ⟨rfl, rfl⟩ := pr
    refine tl_iret rfl ?_
    -- leaf 3 at 12
    refine ⟨_, rfl, ?_⟩
    rw [Dbring]
    repeat (first | rw [if_pos (by omega)] | rw [if_neg (by omega)])
    exact PK.ref hI (by omega) (by omega)
set_option maxRecDepth 20000 in
set_option maxHeartbeats 1000000 in
theorem r_file_lp (l : Launch) (h : jH) (f : Int) (o n : Nat) (ho : o + 1 + n ≤ 1362) (hn : n ≤ 400) (h8 : h 388 8 = (n : Int)) (P : Option Value → jH → Prop) (hx : jT l 220 103 [some (.ref 388), some (.int (jI f)), some (.int (jI (o : Int))), some (.int (jI (n : Int)))] [] (hw h 390 (va_cpy (h 393) (h 390) 0 (o + 1) n)) P) : ∀ (m k : Nat), n - k < m → k ≤ n → jT l 220 73 [some (.ref 388), some (.int (jI f)), some (.int (jI (o : Int))), some (.int (jI (k : Int)))] [] (hw h 390 (va_cpy (h 393) (h 390) 0 (o + 1) k)) P := by
  intro m
  induction m with
  | zero => intro k hk; omega
  | succ m ih =>
    intro k hk hkK
    refine tl_iload_n rfl rfl ?_
    refine tl_aload_n rfl rfl ?_
    refine tl_geti (c := 12) (k9 := 8) rfl rfl rfl ?_
    rw [hw_o (show (388 : Nat) ≠ 390 by decide), h8]
    refine tl_icmp_ge (tgt := 103) rfl rfl ⟨by omega, by omega⟩ ⟨by omega, by omega⟩ (fun c1 => ?_) (fun c1 => ?_)
    · skip
      show jT _ _ 103 _ _ _ _
      -- leaf 0 at 103
      have e : k = n := by omega
      subst e
      exact hx
    · show jT _ _ 81 _ _ _ _
      refine tl_aload_n rfl rfl ?_
      refine tl_getr (c := 12) (k9 := 3) (b := 390) rfl rfl rfl rfl ?_
      show jT _ _ 85 _ _ _ _
      refine tl_iload_n rfl rfl ?_
      refine tl_iconst rfl ?_
      refine tl_iadd rfl ?_
      refine tl_iload_n rfl rfl ?_
      refine tl_iadd rfl ?_
      refine tl_aload_n rfl rfl ?_
      refine tl_getr (c := 12) (k9 := 7) (b := 393) rfl rfl rfl rfl ?_
      show jT _ _ 94 _ _ _ _
      refine tl_iload_n rfl rfl ?_
      refine tl_iald (n := 400) rfl rfl rfl (by omega) (by omega) ?_
      rw [hw_o (show (393 : Nat) ≠ 390 by decide), Int.toNat_natCast]
      refine tl_iast (n := 1362) rfl rfl rfl (by omega) (by omega) ?_
      refine tl_iinc rfl rfl rfl ?_
      refine tl_goto (tgt := 73) rfl rfl ?_
      show jT _ _ 73 _ _ _ _
      -- leaf 1 at 73
      rw [hw_hs, show ((o : Int) + 1 + (k : Int)).toNat = o + 1 + k by omega]
      have e := cpy_s (f := h 393) (g := h 390) (sp := 0) (dp := o + 1) (n := k)
      rw [Nat.zero_add] at e
      rw [e]
      exact ih (k + 1) (by omega) (by omega)
set_option maxRecDepth 20000 in
set_option maxHeartbeats 1000000 in
theorem r_file (l : Launch) (g h : jH) (t f : Int) (hI0 : IC g h t) (hf : jr f) : cI l 220 [.ref 388, .int (jI f)] h (PR (Dfile (Tz h) f)) := by
  have f1 := hf.1
  have f2 := hf.2
  refine cI.of rfl rfl ?_
  refine tl_aload_n rfl rfl ?_
  refine tl_iconst rfl ?_
  refine tl_puti (c := 12) (k9 := 0) rfl rfl rfl rfl ?_
  have hI := hI0.z
  change jT _ _ _ _ _ (Tz h) _
  generalize Tz h = m at hI ⊢
  have tp := hI.tape
  have nu := hI.nund
  have ru := hI.run01
  refine tl_iload_n rfl rfl ?_
  refine tl_i2l rfl ⟨by omega, by omega⟩ ?_
  refine tl_lconst (z := 0) rfl rfl ?_
  show jT _ _ 8 _ _ _ _
  refine tl_lconst (z := 1) rfl rfl ?_
  refine tl_s3i (c_in l _ _ _ _ ⟨by omega, by omega⟩ ⟨by omega, by omega⟩ ⟨by omega, by omega⟩) rfl rfl rfl (Nat.le_of_ble_eq_true rfl) (fun z1 h1 p1 => ?_)
  obtain ⟨q1, p1⟩ := p1
  have q1 := q1.symm
  subst q1
  have b1 : z1 = 0 ∨ z1 = 1 := by rw [p1]; split <;> omega
  refine tl_if_ne (tgt := 21) rfl rfl ⟨by omega, by omega⟩ (fun c1 => ?_) (fun c1 => ?_)
  · skip
    refine tl_aload_n rfl rfl ?_
    refine tl_v0i (c9 := 12) (c_runsR l _ ⟨by omega, by omega⟩) rfl rfl rfl rfl rfl (Nat.le_of_ble_eq_true rfl) (fun zu hu pu => ?_)
    obtain ⟨qu, pu⟩ := pu
    have qu := qu.symm
    subst qu
    refine tl_if_eq (tgt := 35) rfl rfl ⟨by omega, by omega⟩ (fun c2 => ?_) (fun c2 => ?_)
    · skip
      refine tl_aload_n rfl rfl ?_
      show jT _ _ 36 _ _ _ _
      refine tl_geti (c := 12) (k9 := 8) rfl rfl rfl ?_
      refine tl_bipush rfl rfl ?_
      refine tl_icmp_le (tgt := 51) rfl rfl ⟨by omega, by omega⟩ ⟨by omega, by omega⟩ (fun c3 => ?_) (fun c3 => ?_)
      · skip
        refine tl_aload_n rfl rfl ?_
        refine tl_iconst rfl ?_
        refine tl_v1v (c9 := 12) (r_remember l _ 0 (by omega) (by omega)) rfl rfl rfl rfl rfl (Nat.le_of_ble_eq_true rfl) (fun hr pr => ?_)
        subst pr
        have e8 : Trem m 0 388 8 = m 388 8 := Trem_n (by decide)
        have e390 : Trem m 0 390 = m 390 := Trem_o (by decide) (by decide) (by decide)
        have e393 : Trem m 0 393 = m 393 := Trem_o (by decide) (by decide) (by decide)
        generalize gM : Trem m 0 = M at e8 e390 e393 ⊢
        refine tl_iload_n rfl rfl ?_
        show jT _ _ 57 _ _ _ _
        refine tl_s1i (c_fileAt l _ f) rfl rfl rfl (Nat.le_of_ble_eq_true rfl) (fun z6 h6 p6 => ?_)
        obtain ⟨q6, rfl⟩ := p6
        have q6 := q6.symm
        subst q6
        refine tl_istore_n rfl (Nat.le_of_ble_eq_true rfl) rfl ?_
        refine tl_aload_n rfl rfl ?_
        refine tl_getr (c := 12) (k9 := 3) (b := 390) rfl rfl rfl rfl ?_
        refine tl_iload_n rfl rfl ?_
        refine tl_aload_n rfl rfl ?_
        refine tl_geti (c := 12) (k9 := 8) rfl rfl rfl ?_
        show jT _ _ 70 _ _ _ _
        refine tl_iast (n := 1362) rfl rfl rfl (by omega) (by omega) ?_
        refine tl_iconst rfl ?_
        refine tl_istore_n rfl (Nat.le_of_ble_eq_true rfl) rfl ?_
        show jT _ _ 73 _ _ _ _
        -- leaf 0 at 73
        have e0 : hs M 390 (5 + 65 * f).toNat (M 388 8) = hw (hs M 390 (5 + 65 * f).toNat (M 388 8)) 390 (va_cpy (hs M 390 (5 + 65 * f).toNat (M 388 8) 393) (hs M 390 (5 + 65 * f).toNat (M 388 8) 390) 0 ((5 + 65 * f).toNat + 1) 0) := by rw [cpy_0, hw_self]
        rw [show jI (5 + 65 * f) = jI (((5 + 65 * f).toNat : Nat) : Int) by congr 1; omega]
        refine Eq.mpr (congrArg (fun q => jT l 220 73 [some (.ref 388), some (.int (jI f)), some (.int (jI (((5 + 65 * f).toNat : Nat) : Int))), some (.int (jI ((0 : Nat) : Int)))] [] q _) e0) ?_
        refine r_file_lp l _ f (5 + 65 * f).toNat (m 388 8).toNat (by omega) (by omega) (by rw [hs_o (by decide)]; omega) _ ?_ _ 0 (Nat.lt_succ_self _) (Nat.zero_le _)
        refine tl_aload_n rfl rfl ?_
        refine tl_iconst rfl ?_
        refine tl_puti (c := 12) (k9 := 8) rfl rfl rfl rfl ?_
        refine tl_aload_n rfl rfl ?_
        refine tl_aload_n rfl rfl ?_
        refine tl_getr (c := 12) (k9 := 3) (b := 390) rfl rfl rfl rfl ?_
        show jT _ _ 113 _ _ _ _
        refine tl_iload_n rfl rfl ?_
        refine tl_iald (n := 1362) rfl rfl rfl (by omega) (by omega) ?_
        rw [hs_o (show (390 : Nat) ≠ 388 by decide), hw_s, Int.toNat_natCast, va_cpy, if_neg (by omega), hs_s]
        refine tl_v1i (c9 := 12) (c_tell l _ _ ⟨by omega, by omega⟩ (by omega)) rfl rfl rfl rfl rfl (Nat.le_of_ble_eq_true rfl) (fun zt ht pt => ?_)
        obtain ⟨rfl, pt⟩ := pt
        refine tl_iret rfl ?_
        -- leaf 0 at 118
        refine ⟨_, rfl, ?_⟩
        rw [Dfile]
        repeat (first | rw [if_pos (by omega)] | rw [if_neg (by omega)])
        refine ⟨by show M 388 8 = m 388 8; omega, ?_⟩
        show _ = Ttell _ _
        rw [← e8, gM]
        rw [pt]
        have e7 : hs (hw (hs M 390 (5 + 65 * f).toNat (M 388 8)) 390 (va_cpy (hs M 390 (5 + 65 * f).toNat (M 388 8) 393) (hs M 390 (5 + 65 * f).toNat (M 388 8) 390) 0 ((5 + 65 * f).toNat + 1) (m 388 8).toNat)) 388 8 0 = Tlay M (5 + 65 * f).toNat := by
          rw [Tlay, Tlay0, hs_eq M, hw_hw, hw_s, hw_o (show (393 : Nat) ≠ 390 by decide), e8]
        rw [← e7]
        rfl
      · show jT _ _ 44 _ _ _ _
        refine tl_aload_n rfl rfl ?_
        refine tl_bipush rfl rfl ?_
        refine tl_v1i (c9 := 12) (c_tell l _ _ ⟨by omega, by omega⟩ (by omega)) rfl rfl rfl rfl rfl (Nat.le_of_ble_eq_true rfl) (fun zt ht pt => ?_)
        obtain ⟨rfl, pt⟩ := pt
        refine tl_iret rfl ?_
        -- leaf 1 at 50
        refine ⟨_, rfl, ?_⟩
        rw [Dfile]
        repeat (first | rw [if_pos (by omega)] | rw [if_neg (by omega)])
        exact ⟨rfl, pt⟩
    · show jT _ _ 28 _ _ _ _
      show jT _ _ 28 _ _ _ _
      refine tl_aload_n rfl rfl ?_
      refine tl_bipush rfl rfl ?_
      refine tl_v1i (c9 := 12) (c_tell l _ _ ⟨by omega, by omega⟩ (by omega)) rfl rfl rfl rfl rfl (Nat.le_of_ble_eq_true rfl) (fun zt ht pt => ?_)
      obtain ⟨rfl, pt⟩ := pt
      refine tl_iret rfl ?_
      -- leaf 2 at 34
      refine ⟨_, rfl, ?_⟩
      rw [Dfile]
      repeat (first | rw [if_pos (by omega)] | rw [if_neg (by omega)])
      exact ⟨rfl, pt⟩
  · show jT _ _ 15 _ _ _ _
    refine tl_aload_n rfl rfl ?_
    refine tl_iconst rfl ?_
    refine tl_v1i (c9 := 12) (c_tell l _ _ ⟨by omega, by omega⟩ (by omega)) rfl rfl rfl rfl rfl (Nat.le_of_ble_eq_true rfl) (fun zt ht pt => ?_)
    obtain ⟨rfl, pt⟩ := pt
    show jT _ _ 20 _ _ _ _
    refine tl_iret rfl ?_
    -- leaf 3 at 20
    refine ⟨_, rfl, ?_⟩
    rw [Dfile]
    repeat (first | rw [if_pos (by omega)] | rw [if_neg (by omega)])
    exact ⟨rfl, pt⟩
set_option maxRecDepth 20000 in
set_option maxHeartbeats 1000000 in
theorem r_bring_lp (l : Launch) (h : jH) (f : Int) (o n : Nat) (ho : o + 1 + n ≤ 1362) (hn : n ≤ 400) (h8 : h 388 8 = (n : Int)) (P : Option Value → jH → Prop) (hx : jT l 221 101 [some (.ref 388), some (.int (jI f)), some (.int (jI (o : Int))), some (.int (jI (n : Int)))] [] (hw h 390 (va_cpy (h 393) (h 390) 0 (o + 1) n)) P) : ∀ (m k : Nat), n - k < m → k ≤ n → jT l 221 71 [some (.ref 388), some (.int (jI f)), some (.int (jI (o : Int))), some (.int (jI (k : Int)))] [] (hw h 390 (va_cpy (h 393) (h 390) 0 (o + 1) k)) P := by
  intro m
  induction m with
  | zero => intro k hk; omega
  | succ m ih =>
    intro k hk hkK
    refine tl_iload_n rfl rfl ?_
    refine tl_aload_n rfl rfl ?_
    refine tl_geti (c := 12) (k9 := 8) rfl rfl rfl ?_
    rw [hw_o (show (388 : Nat) ≠ 390 by decide), h8]
    refine tl_icmp_ge (tgt := 101) rfl rfl ⟨by omega, by omega⟩ ⟨by omega, by omega⟩ (fun c1 => ?_) (fun c1 => ?_)
    · skip
      show jT _ _ 101 _ _ _ _
      -- leaf 0 at 101
      have e : k = n := by omega
      subst e
      exact hx
    · show jT _ _ 79 _ _ _ _
      refine tl_aload_n rfl rfl ?_
      refine tl_getr (c := 12) (k9 := 3) (b := 390) rfl rfl rfl rfl ?_
      show jT _ _ 83 _ _ _ _
      refine tl_iload_n rfl rfl ?_
      refine tl_iconst rfl ?_
      refine tl_iadd rfl ?_
      refine tl_iload_n rfl rfl ?_
      refine tl_iadd rfl ?_
      refine tl_aload_n rfl rfl ?_
      refine tl_getr (c := 12) (k9 := 7) (b := 393) rfl rfl rfl rfl ?_
      show jT _ _ 92 _ _ _ _
      refine tl_iload_n rfl rfl ?_
      refine tl_iald (n := 400) rfl rfl rfl (by omega) (by omega) ?_
      rw [hw_o (show (393 : Nat) ≠ 390 by decide), Int.toNat_natCast]
      refine tl_iast (n := 1362) rfl rfl rfl (by omega) (by omega) ?_
      refine tl_iinc rfl rfl rfl ?_
      refine tl_goto (tgt := 71) rfl rfl ?_
      show jT _ _ 71 _ _ _ _
      -- leaf 1 at 71
      rw [hw_hs, show ((o : Int) + 1 + (k : Int)).toNat = o + 1 + k by omega]
      have e := cpy_s (f := h 393) (g := h 390) (sp := 0) (dp := o + 1) (n := k)
      rw [Nat.zero_add] at e
      rw [e]
      exact ih (k + 1) (by omega) (by omega)
set_option maxRecDepth 20000 in
set_option maxHeartbeats 1000000 in
theorem r_bring (l : Launch) (g h : jH) (t f : Int) (hI0 : IC g h t) (hf : jr f) : cI l 221 [.ref 388, .int (jI f)] h (PR (Dbring (Tz h) f)) := by
  have f1 := hf.1
  have f2 := hf.2
  refine cI.of rfl rfl ?_
  refine tl_aload_n rfl rfl ?_
  refine tl_iconst rfl ?_
  refine tl_puti (c := 12) (k9 := 0) rfl rfl rfl rfl ?_
  have hI := hI0.z
  change jT _ _ _ _ _ (Tz h) _
  generalize Tz h = m at hI ⊢
  have tp := hI.tape
  have nu := hI.nund
  have ru := hI.run01
  refine tl_iload_n rfl rfl ?_
  refine tl_s1i (c_isSlotR l _ f ⟨by omega, by omega⟩) rfl rfl rfl (Nat.le_of_ble_eq_true rfl) (fun z1 h1 p1 => ?_)
  obtain ⟨q1, p1⟩ := p1
  have q1 := q1.symm
  subst q1
  have b1 : z1 = 0 ∨ z1 = 1 := by rw [p1]; split <;> omega
  refine tl_if_ne (tgt := 18) rfl rfl ⟨by omega, by omega⟩ (fun c1 => ?_) (fun c1 => ?_)
  · skip
    show jT _ _ 18 _ _ _ _
    refine tl_aload_n rfl rfl ?_
    refine tl_geti (c := 12) (k9 := 8) rfl rfl rfl ?_
    refine tl_if_ne (tgt := 32) rfl rfl ⟨by omega, by omega⟩ (fun c2 => ?_) (fun c2 => ?_)
    · skip
      refine tl_aload_n rfl rfl ?_
      refine tl_geti (c := 12) (k9 := 8) rfl rfl rfl ?_
      refine tl_sipush rfl rfl ?_
      refine tl_icmp_le (tgt := 49) rfl rfl ⟨by omega, by omega⟩ ⟨by omega, by omega⟩ (fun c3 => ?_) (fun c3 => ?_)
      · skip
        show jT _ _ 49 _ _ _ _
        refine tl_aload_n rfl rfl ?_
        refine tl_iconst rfl ?_
        refine tl_v1v (c9 := 12) (r_remember l _ 1 (by omega) (by omega)) rfl rfl rfl rfl rfl (Nat.le_of_ble_eq_true rfl) (fun hr pr => ?_)
        subst pr
        have e8 : Trem m 1 388 8 = m 388 8 := Trem_n (by decide)
        have e390 : Trem m 1 390 = m 390 := Trem_o (by decide) (by decide) (by decide)
        have e393 : Trem m 1 393 = m 393 := Trem_o (by decide) (by decide) (by decide)
        generalize gM : Trem m 1 = M at e8 e390 e393 ⊢
        refine tl_iload_n rfl rfl ?_
        refine tl_s1i (c_slotAt l _ f) rfl rfl rfl (Nat.le_of_ble_eq_true rfl) (fun z6 h6 p6 => ?_)
        obtain ⟨q6, rfl⟩ := p6
        have q6 := q6.symm
        subst q6
        refine tl_istore_n rfl (Nat.le_of_ble_eq_true rfl) rfl ?_
        refine tl_aload_n rfl rfl ?_
        show jT _ _ 60 _ _ _ _
        refine tl_getr (c := 12) (k9 := 3) (b := 390) rfl rfl rfl rfl ?_
        refine tl_iload_n rfl rfl ?_
        refine tl_aload_n rfl rfl ?_
        refine tl_geti (c := 12) (k9 := 8) rfl rfl rfl ?_
        refine tl_iast (n := 1362) rfl rfl rfl (by omega) (by omega) ?_
        refine tl_iconst rfl ?_
        refine tl_istore_n rfl (Nat.le_of_ble_eq_true rfl) rfl ?_
        show jT _ _ 71 _ _ _ _
        -- leaf 0 at 71
        have e0 : hs M 390 (200 + 301 * f).toNat (M 388 8) = hw (hs M 390 (200 + 301 * f).toNat (M 388 8)) 390 (va_cpy (hs M 390 (200 + 301 * f).toNat (M 388 8) 393) (hs M 390 (200 + 301 * f).toNat (M 388 8) 390) 0 ((200 + 301 * f).toNat + 1) 0) := by rw [cpy_0, hw_self]
        rw [show jI (200 + 301 * f) = jI (((200 + 301 * f).toNat : Nat) : Int) by congr 1; omega]
        refine Eq.mpr (congrArg (fun q => jT l 221 71 [some (.ref 388), some (.int (jI f)), some (.int (jI (((200 + 301 * f).toNat : Nat) : Int))), some (.int (jI ((0 : Nat) : Int)))] [] q _) e0) ?_
        refine r_bring_lp l _ f (200 + 301 * f).toNat (m 388 8).toNat (by omega) (by omega) (by rw [hs_o (by decide)]; omega) _ ?_ _ 0 (Nat.lt_succ_self _) (Nat.zero_le _)
        refine tl_aload_n rfl rfl ?_
        refine tl_iconst rfl ?_
        refine tl_puti (c := 12) (k9 := 8) rfl rfl rfl rfl ?_
        refine tl_aload_n rfl rfl ?_
        refine tl_aload_n rfl rfl ?_
        refine tl_getr (c := 12) (k9 := 3) (b := 390) rfl rfl rfl rfl ?_
        show jT _ _ 111 _ _ _ _
        refine tl_iload_n rfl rfl ?_
        refine tl_iald (n := 1362) rfl rfl rfl (by omega) (by omega) ?_
        rw [hs_o (show (390 : Nat) ≠ 388 by decide), hw_s, Int.toNat_natCast, va_cpy, if_neg (by omega), hs_s]
        refine tl_v1i (c9 := 12) (c_tell l _ _ ⟨by omega, by omega⟩ (by omega)) rfl rfl rfl rfl rfl (Nat.le_of_ble_eq_true rfl) (fun zt ht pt => ?_)
        obtain ⟨rfl, pt⟩ := pt
        refine tl_iret rfl ?_
        -- leaf 0 at 116
        refine ⟨_, rfl, ?_⟩
        rw [Dbring]
        repeat (first | rw [if_pos (by omega)] | rw [if_neg (by omega)])
        refine ⟨by show M 388 8 = m 388 8; omega, ?_⟩
        show _ = Ttell _ _
        rw [← e8, gM]
        rw [pt]
        have e7 : hs (hw (hs M 390 (200 + 301 * f).toNat (M 388 8)) 390 (va_cpy (hs M 390 (200 + 301 * f).toNat (M 388 8) 393) (hs M 390 (200 + 301 * f).toNat (M 388 8) 390) 0 ((200 + 301 * f).toNat + 1) (m 388 8).toNat)) 388 8 0 = Tlay M (200 + 301 * f).toNat := by
          rw [Tlay, Tlay0, hs_eq M, hw_hw, hw_s, hw_o (show (393 : Nat) ≠ 390 by decide), e8]
        rw [← e7]
        rfl
      · show jT _ _ 42 _ _ _ _
        show jT _ _ 42 _ _ _ _
        refine tl_aload_n rfl rfl ?_
        refine tl_bipush rfl rfl ?_
        refine tl_v1i (c9 := 12) (c_tell l _ _ ⟨by omega, by omega⟩ (by omega)) rfl rfl rfl rfl rfl (Nat.le_of_ble_eq_true rfl) (fun zt ht pt => ?_)
        obtain ⟨rfl, pt⟩ := pt
        refine tl_iret rfl ?_
        -- leaf 1 at 48
        refine ⟨_, rfl, ?_⟩
        rw [Dbring]
        repeat (first | rw [if_pos (by omega)] | rw [if_neg (by omega)])
        exact ⟨rfl, pt⟩
    · show jT _ _ 25 _ _ _ _
      refine tl_aload_n rfl rfl ?_
      refine tl_bipush rfl rfl ?_
      refine tl_v1i (c9 := 12) (c_tell l _ _ ⟨by omega, by omega⟩ (by omega)) rfl rfl rfl rfl rfl (Nat.le_of_ble_eq_true rfl) (fun zt ht pt => ?_)
      obtain ⟨rfl, pt⟩ := pt
      show jT _ _ 31 _ _ _ _
      refine tl_iret rfl ?_
      -- leaf 2 at 31
      refine ⟨_, rfl, ?_⟩
      rw [Dbring]
      repeat (first | rw [if_pos (by omega)] | rw [if_neg (by omega)])
      exact ⟨rfl, pt⟩
  · show jT _ _ 12 _ _ _ _
    refine tl_aload_n rfl rfl ?_
    refine tl_iconst rfl ?_
    refine tl_v1i (c9 := 12) (c_tell l _ _ ⟨by omega, by omega⟩ (by omega)) rfl rfl rfl rfl rfl (Nat.le_of_ble_eq_true rfl) (fun zt ht pt => ?_)
    obtain ⟨rfl, pt⟩ := pt
    refine tl_iret rfl ?_
    -- leaf 3 at 17
    refine ⟨_, rfl, ?_⟩
    rw [Dbring]
    repeat (first | rw [if_pos (by omega)] | rw [if_neg (by omega)])
    exact ⟨rfl, pt⟩
