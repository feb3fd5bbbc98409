/-! what a call leaves that uses the reference's scratch: RF; move -/
def RF (s s' : jH) : Prop := (∀ x, x < 388 ∨ (389 ≤ x ∧ x ≤ 393) ∨ 434 ≤ x → s' x = s x) ∧ ∀ q, q = 1 ∨ q = 6 ∨ q = 8 ∨ q = 45 ∨ q = 48 ∨ q = 49 ∨ q = 59 ∨ q = 74 → s' 388 q = s 388 q
theorem RF.rfl' {s : jH} : RF s s := ⟨fun _ _ => rfl, fun _ _ => rfl⟩
theorem RF.trans {a b c : jH} (h1 : RF a b) (h2 : RF b c) : RF a c := ⟨fun x hx => (h2.1 x hx).trans (h1.1 x hx), fun q hq => (h2.2 q hq).trans (h1.2 q hq)⟩
theorem RF.s {a b : jH} {x q : Nat} {z : Int} (h : RF a b) (hx : (394 ≤ x ∧ x < 434) ∨ (x = 388 ∧ q ≠ 1 ∧ q ≠ 6 ∧ q ≠ 8 ∧ q ≠ 45 ∧ q ≠ 48 ∧ q ≠ 49 ∧ q ≠ 59 ∧ q ≠ 74)) : RF a (hs b x q z) := by
  refine ⟨fun y hy => ?_, fun r hr => ?_⟩
  · rw [← h.1 y hy]; exact hs_O (by omega)
  · rw [← h.2 r hr]
    by_cases e : x = 388
    · subst e; exact hs_k (by omega)
    · exact hs_o (fun e2 => e e2.symm)
theorem RF.w {a b : jH} {x : Nat} {f : Nat → Int} (h : RF a b) (hx : 394 ≤ x ∧ x < 434) : RF a (hw b x f) := by
  refine ⟨fun y hy => ?_, fun r hr => ?_⟩
  · rw [← h.1 y hy]; exact hw_o (by omega)
  · rw [← h.2 r hr]; exact congrFun (hw_o (by omega)) r
theorem IC.rf {h s s' : jH} {t : Int} (hI : IC h s t) (hr : RF s s') : IC h s' t := by
  have e390 := hr.1 390 (by omega)
  have e389 := hr.1 389 (by omega)
  have e391 := hr.1 391 (by omega)
  have e392 := hr.1 392 (by omega)
  have e393 := hr.1 393 (by omega)
  have q6 := hr.2 6 (by omega)
  have q8 := hr.2 8 (by omega)
  obtain ⟨a, b, c, d⟩ := hI
  refine ⟨by rw [e390]; exact a, ?_, ?_, ?_⟩
  · unfold RU at b ⊢
    rw [q6, e391, e392]; exact b
  · unfold RT at c ⊢
    rw [q8, e393]; exact c
  · unfold RN at d ⊢
    rw [e390, e389, hr.2 1 (by omega), hr.2 45 (by omega), hr.2 48 (by omega), hr.2 49 (by omega), hr.2 59 (by omega), hr.2 74 (by omega)]; exact d
theorem jT.mem {l : Launch} {j pc : Nat} {L : jLo} {st : List Value} {h h' : jH} {P : Option Value → jH → Prop} (e : h = h') (k : jT l j pc L st h' P) : jT l j pc L st h P := by rw [e]; exact k
def PRF (D : Int × jH) : Int → jH → Prop := fun z h' => z = D.1 ∧ RF D.2 h'
theorem RF.tell {s s' : jH} (h : RF s s') (v : Int) (v6 : -6 ≤ v) : RF (Ttell s v) (Ttell s' v) := by
  unfold Ttell
  have e389 := h.1 389 (by omega)
  split
  · refine ⟨fun x hx => ?_, fun q hq => ?_⟩
    · by_cases e : x = 389
      · subst e
        funext i
        by_cases ei : i = (-v).toNat
        · subst ei; rw [hs_s, hs_s, e389]
        · rw [hs_k ei, hs_k ei, hs_o (by decide), hs_o (by decide), e389]
      · rw [hs_O e, hs_O e, hs_O (by omega), hs_O (by omega)]; exact h.1 x hx
    · rw [hs_o (show (388 : Nat) ≠ 389 by decide), hs_o (show (388 : Nat) ≠ 389 by decide)]
      by_cases e : q = 1
      · subst e; rw [hs_s, hs_s]
      · rw [hs_k e, hs_k e]; exact h.2 q hq
  · refine ⟨fun x hx => ?_, fun q hq => ?_⟩
    · rw [hs_O (by omega), hs_O (by omega)]; exact h.1 x hx
    · by_cases e : q = 1
      · subst e; rw [hs_s, hs_s]
      · rw [hs_k e, hs_k e]; exact h.2 q hq
theorem Rput_s {R u w : Nat → Int} {p : Int} {k : Nat} (p0 : 0 ≤ p) (hp : p ≤ R 70) (hu : w 0 = u k) : Rput (Rput R u p (k : Int)) w (p + (k : Int)) 1 = Rput R u p ((k : Int) + 1) := by
  funext i
  by_cases c : i = 70
  · subst c
    rw [Rput, if_pos rfl, Rput, if_pos rfl, Rput, if_pos rfl]; omega
  · have g : ∀ q : Nat, q ≠ 70 → Rput R u p (k : Int) q = if (71 + p).toNat ≤ q ∧ q < (71 + p).toNat + k then u (q - (71 + p).toNat) else if (71 + p).toNat + k ≤ q ∧ q < (71 + R 70).toNat + k then R (q - k) else R q := by
      intro q hq
      rw [Rput, if_neg hq, va_cpy, va_cpy]
      by_cases c1 : (71 + p).toNat ≤ q ∧ q < (71 + p).toNat + k
      · rw [if_pos (by omega), if_pos c1]; congr 1; omega
      · rw [if_neg (by omega), if_neg c1]
        by_cases c2 : (71 + p).toNat + k ≤ q ∧ q < (71 + R 70).toNat + k
        · rw [if_pos (by omega), if_pos c2]; congr 1; omega
        · rw [if_neg (by omega), if_neg c2]
    have g70 : Rput R u p (k : Int) 70 = R 70 + (k : Int) := by rw [Rput, if_pos rfl]
    rw [Rput, if_neg c, g70, va_cpy]
    by_cases c1 : i = (71 + p).toNat + k
    · rw [if_pos (by omega), show 0 + (i - (71 + (p + (k : Int))).toNat) = 0 by omega, hu, Rput, if_neg c, va_cpy, if_pos (by omega)]
      congr 1; omega
    · rw [if_neg (by omega), va_cpy]
      by_cases c2 : (71 + p).toNat + k < i ∧ i < (71 + R 70).toNat + k + 1
      · rw [if_pos (by omega), g _ (by omega), if_neg (by omega), if_pos (by omega), Rput, if_neg c, va_cpy, if_neg (by omega), va_cpy, if_pos (by omega)]
        congr 1; omega
      · rw [if_neg (by omega), g i c, Rput, if_neg c, va_cpy]
        by_cases c3 : (71 + p).toNat ≤ i ∧ i < (71 + p).toNat + k
        · rw [if_pos c3, if_pos (by omega)]; congr 1; omega
        · rw [if_neg c3, if_neg (by omega), if_neg (by omega), va_cpy, if_neg (by omega)]
theorem Rput_0 {R u : Nat → Int} {p : Int} : Rput R u p 0 = R := by
  funext i
  rw [Rput]
  by_cases c : i = 70
  · subst c; rw [if_pos rfl]; omega
  · rw [if_neg c, va_cpy, if_neg (by omega), va_cpy]
    split
    · congr 1; omega
    · rfl
def Tmv (s : jH) (p n q : Int) : jH := Tputin (Ttake s p n) q n
def Dmove (s : jH) (p n q : Int) : Int × jH := if 0 ≤ p ∧ 1 ≤ n ∧ p + n ≤ s 390 70 ∧ 0 ≤ q ∧ n + q ≤ s 390 70 then (if q = p then dT s (-4) else dT (Tmv (Trem s 7) p n q) (s 390 70 - alk (fun i => s 390 (71 + i)) (fun i => Tmv (Trem s 7) p n q 390 (71 + i)) (s 390 70).toNat)) else dT s (-1)
theorem Ag.move {s s' : jH} (h : Ag s s') (p n q : Int) : AgD (Dmove s p n q) (Dmove s' p n q) := by
  have e : Ag (Tmv (Trem s 7) p n q) (Tmv (Trem s' 7) p n q) := ((h.rem 7).take p n).putin q n
  unfold Dmove
  rw [h 390 (by decide), e 390 (by decide)]
  split
  · split
    · exact h.d _
    · exact e.d _
  · exact h.d _
theorem Tmv_b {s : jH} {p n q : Int} (p0 : 0 ≤ p) (n1 : 1 ≤ n) (pn : p + n ≤ s 390 70) (q0 : 0 ≤ q) (qn : n + q ≤ s 390 70) (hb : ∀ i : Nat, 71 ≤ i → (i : Int) < 71 + s 390 70 → byt (s 390 i)) : ∀ i : Nat, (i : Int) < s 390 70 → byt (Tmv s p n q 390 (71 + i)) := by
  intro i hi
  have e70 : Ttake s p n 390 70 = s 390 70 - n := by rw [Ttake, hw_s, Rcut, if_pos rfl]
  have hc : ∀ j : Nat, 71 ≤ j → (j : Int) < 71 + s 390 70 - n → byt (Ttake s p n 390 j) := by
    intro j j1 j2
    rw [Ttake, hw_s, Rcut, if_neg (by omega), va_cpy]
    split
    · exact hb _ (by omega) (by omega)
    · exact hb _ (by omega) (by omega)
  rw [Tmv, Tputin, hw_s, Rput, if_neg (by omega), e70, va_cpy]
  split
  · rw [Ttake, hw_o (by decide), hw_s, va_cpy, if_pos (by omega)]
    exact hb _ (by omega) (by omega)
  · rw [va_cpy]
    split
    · exact hc _ (by omega) (by omega)
    · exact hc _ (by omega) (by omega)
set_option maxRecDepth 20000 in
set_option maxHeartbeats 1000000 in
theorem r_move_A (l : Launch) (h : jH) (p n q : Int) (h64 : h 390 70 ≤ 64) (P : Option Value → jH → Prop) (hx : jT l 230 94 [some (.ref 388), some (.int (jI p)), some (.int (jI n)), some (.int (jI q)), some (.int (jI (h 390 70))), some (.int (jI (((h 390 70).toNat : Nat) : Int))), none] [] (hw h 395 (va_cpy (h 390) (h 395) 71 0 (h 390 70).toNat)) P) (h0 : 0 ≤ h 390 70) : ∀ (m k : Nat), (h 390 70).toNat - k < m → k ≤ (h 390 70).toNat → jT l 230 67 [some (.ref 388), some (.int (jI p)), some (.int (jI n)), some (.int (jI q)), some (.int (jI (h 390 70))), some (.int (jI (k : Int))), none] [] (hw h 395 (va_cpy (h 390) (h 395) 71 0 k)) P := by
  intro m
  induction m with
  | zero => intro k hk; omega
  | succ m ih =>
    intro k hk hkK
    refine tl_iload rfl rfl ?_
    refine tl_iload rfl rfl ?_
    refine tl_icmp_ge (tgt := 94) rfl rfl ⟨by omega, by omega⟩ ⟨by omega, by omega⟩ (fun c1 => ?_) (fun c1 => ?_)
    · skip
      show jT _ _ 94 _ _ _ _
      -- leaf 0 at 94
      have e : k = (h 390 70).toNat := by omega
      rw [e]
      exact hx
    · show jT _ _ 74 _ _ _ _
      refine tl_aload_n rfl rfl ?_
      refine tl_getr (c := 12) (k9 := 10) (b := 395) rfl rfl rfl rfl ?_
      refine tl_iload rfl rfl ?_
      show jT _ _ 80 _ _ _ _
      refine tl_aload_n rfl rfl ?_
      refine tl_iconst rfl ?_
      refine tl_iload rfl rfl ?_
      refine tl_v2i (c9 := 12) (c_at l _ 1 (k : Int) (by decide) (by decide) (by omega) (by omega)) rfl rfl rfl rfl rfl (Nat.le_of_ble_eq_true rfl) (fun z1 h1 p1 => ?_)
      obtain ⟨q1, rfl⟩ := p1
      have q1 := q1.symm
      subst q1
      rw [hw_o (show (390 : Nat) ≠ 395 by decide), show ((6 : Int) + 65 * 1 + (k : Int)).toNat = 71 + k by omega]
      refine tl_iast (n := 64) rfl rfl rfl (by omega) (by omega) ?_
      refine tl_iinc rfl rfl rfl ?_
      refine tl_goto (tgt := 67) rfl rfl ?_
      show jT _ _ 67 _ _ _ _
      -- leaf 1 at 67
      rw [hw_hs, Int.toNat_natCast]
      have e := cpy_s (f := h 390) (g := h 395) (sp := 71) (dp := 0) (n := k)
      rw [Nat.zero_add] at e
      rw [e]
      exact ih (k + 1) (by omega) (by omega)
set_option maxRecDepth 20000 in
set_option maxHeartbeats 1000000 in
theorem r_move_B (l : Launch) (h : jH) (p n q : Int) (S : Nat) (hS : S ≤ 64) (hb : ∀ i, i < S → byt (h 395 i) ∧ byt (h 390 (71 + i))) (P : Option Value → jH → Prop) (hx : jT l 230 152 [some (.ref 388), some (.int (jI p)), some (.int (jI n)), some (.int (jI q)), some (.int (jI (S : Int))), some (.int (jI ((S : Int) - alk (h 395) (fun i => h 390 (71 + i)) S))), some (.int (jI (S : Int)))] [] h P) : ∀ (m k : Nat), S - k < m → k ≤ S → jT l 230 112 [some (.ref 388), some (.int (jI p)), some (.int (jI n)), some (.int (jI q)), some (.int (jI (S : Int))), some (.int (jI ((k : Int) - alk (h 395) (fun i => h 390 (71 + i)) k))), some (.int (jI (k : Int)))] [] h P := by
  intro m
  induction m with
  | zero => intro k hk; omega
  | succ m ih =>
    intro k hk hkK
    have ab := alk_b (h 395) (fun i => h 390 (71 + i)) k
    refine tl_iload rfl rfl ?_
    refine tl_iload rfl rfl ?_
    refine tl_icmp_ge (tgt := 152) rfl rfl ⟨by omega, by omega⟩ ⟨by omega, by omega⟩ (fun c1 => ?_) (fun c1 => ?_)
    · skip
      show jT _ _ 152 _ _ _ _
      -- leaf 0 at 152
      have e : k = S := by omega
      rw [e]
      exact hx
    · show jT _ _ 119 _ _ _ _
      refine tl_iload rfl rfl ?_
      refine tl_aload_n rfl rfl ?_
      refine tl_getr (c := 12) (k9 := 10) (b := 395) rfl rfl rfl rfl ?_
      show jT _ _ 125 _ _ _ _
      refine tl_iload rfl rfl ?_
      refine tl_iald (n := 64) rfl rfl rfl (by omega) (by omega) ?_
      rw [Int.toNat_natCast]
      have g1 := (hb k (by omega)).1.1
      have g2 := (hb k (by omega)).1.2
      have g3 := (hb k (by omega)).2.1
      have g4 := (hb k (by omega)).2.2
      refine tl_aload_n rfl rfl ?_
      refine tl_iconst rfl ?_
      refine tl_iload rfl rfl ?_
      refine tl_v2i (c9 := 12) (c_at l _ 1 (k : Int) (by decide) (by decide) (by omega) (by omega)) rfl rfl rfl rfl rfl (Nat.le_of_ble_eq_true rfl) (fun z1 h1 p1 => ?_)
      obtain ⟨q1, rfl⟩ := p1
      have q1 := q1.symm
      subst q1
      rw [show ((6 : Int) + 65 * 1 + (k : Int)).toNat = 71 + k by omega]
      refine tl_icmp_ne (tgt := 142) rfl rfl ⟨by omega, by omega⟩ ⟨by omega, by omega⟩ (fun c2 => ?_) (fun c2 => ?_)
      · skip
        show jT _ _ 142 _ _ _ _
        refine tl_iconst rfl ?_
        refine tl_iadd rfl ?_
        refine tl_istore rfl (Nat.le_of_ble_eq_true rfl) rfl ?_
        refine tl_iinc rfl rfl rfl ?_
        refine tl_goto (tgt := 112) rfl rfl ?_
        show jT _ _ 112 _ _ _ _
        -- leaf 1 at 112
        first
          | (have e : (((k + 1 : Nat) : Int) - alk (h 395) (fun i => h 390 (71 + i)) (k + 1)) = (k : Int) - alk (h 395) (fun i => h 390 (71 + i)) k + 1 := by rw [alk, if_neg (by omega)]; omega
             have := ih (k + 1) (by omega) (by omega)
             rw [e] at this
             exact this)
          | (have e : (((k + 1 : Nat) : Int) - alk (h 395) (fun i => h 390 (71 + i)) (k + 1)) = (k : Int) - alk (h 395) (fun i => h 390 (71 + i)) k + 0 := by rw [alk, if_pos (by omega)]; omega
             have := ih (k + 1) (by omega) (by omega)
             rw [e] at this
             exact this)
      · show jT _ _ 138 _ _ _ _
        refine tl_iconst rfl ?_
        refine tl_goto (tgt := 143) rfl rfl ?_
        show jT _ _ 143 _ _ _ _
        refine tl_iadd rfl ?_
        refine tl_istore rfl (Nat.le_of_ble_eq_true rfl) rfl ?_
        refine tl_iinc rfl rfl rfl ?_
        refine tl_goto (tgt := 112) rfl rfl ?_
        show jT _ _ 112 _ _ _ _
        -- leaf 2 at 112
        first
          | (have e : (((k + 1 : Nat) : Int) - alk (h 395) (fun i => h 390 (71 + i)) (k + 1)) = (k : Int) - alk (h 395) (fun i => h 390 (71 + i)) k + 1 := by rw [alk, if_neg (by omega)]; omega
             have := ih (k + 1) (by omega) (by omega)
             rw [e] at this
             exact this)
          | (have e : (((k + 1 : Nat) : Int) - alk (h 395) (fun i => h 390 (71 + i)) (k + 1)) = (k : Int) - alk (h 395) (fun i => h 390 (71 + i)) k + 0 := by rw [alk, if_pos (by omega)]; omega
             have := ih (k + 1) (by omega) (by omega)
             rw [e] at this
             exact this)
set_option maxRecDepth 20000 in
set_option maxHeartbeats 1000000 in
theorem r_move (l : Launch) (g h : jH) (t p n q : Int) (hI0 : IC g h t) (hp : jr p) (hn : jr n) (hq : jr q) : cI l 230 [.ref 388, .int (jI p), .int (jI n), .int (jI q)] h (PRF (Dmove (Tz h) p n q)) := by
  have p1 := hp.1
  have p2 := hp.2
  have n1 := hn.1
  have n2 := hn.2
  have q1 := hq.1
  have q2 := hq.2
  refine cI.of rfl rfl ?_
  refine tl_aload_n rfl rfl ?_
  refine tl_iconst rfl ?_
  refine tl_puti (c := 12) (k9 := 0) rfl rfl rfl rfl ?_
  have hI := hI0.z
  change jT _ _ _ _ _ (Tz h) _
  generalize Tz h = m at hI ⊢
  have nu := hI.nund
  have hF : RSf g 4 (m 390) 70 := hI.1.1 1 (by decide)
  obtain ⟨a1, a2, a3, a4⟩ := hF
  refine tl_aload_n rfl rfl ?_
  refine tl_iload_n rfl rfl ?_
  refine tl_iload_n rfl rfl ?_
  show jT _ _ 8 _ _ _ _
  refine tl_v2i (c9 := 12) (r_areThere l g _ t p n hI hp hn) rfl rfl rfl rfl rfl (Nat.le_of_ble_eq_true rfl) (fun zs hs9 ps => ?_)
  obtain ⟨qs, ps⟩ := ps
  have qs := qs.symm
  subst qs
  have bs : zs = 0 ∨ zs = 1 := by rw [ps]; split <;> omega
  refine tl_if_eq (tgt := 33) rfl rfl ⟨by omega, by omega⟩ (fun c1 => ?_) (fun c1 => ?_)
  · skip
    refine tl_aload_n rfl rfl ?_
    refine tl_iconst rfl ?_
    refine tl_v1i (c9 := 12) (c_tell l _ _ ⟨by omega, by omega⟩ (by omega)) rfl rfl rfl rfl rfl (Nat.le_of_ble_eq_true rfl) (fun zt ht pt => ?_)
    obtain ⟨rfl, pt⟩ := pt
    refine tl_iret rfl ?_
    -- leaf 0 at 38
    refine ⟨_, rfl, ?_⟩
    rw [Dmove]
    repeat (first | rw [if_pos (by omega)] | rw [if_neg (by omega)])
    rw [pt]
    exact ⟨rfl, RF.rfl'⟩
  · show jT _ _ 14 _ _ _ _
    refine tl_iload_n rfl rfl ?_
    show jT _ _ 15 _ _ _ _
    refine tl_if_lt (tgt := 33) rfl rfl ⟨by omega, by omega⟩ (fun c2 => ?_) (fun c2 => ?_)
    · skip
      refine tl_aload_n rfl rfl ?_
      refine tl_iconst rfl ?_
      refine tl_v1i (c9 := 12) (c_tell l _ _ ⟨by omega, by omega⟩ (by omega)) rfl rfl rfl rfl rfl (Nat.le_of_ble_eq_true rfl) (fun zt ht pt => ?_)
      obtain ⟨rfl, pt⟩ := pt
      refine tl_iret rfl ?_
      -- leaf 1 at 38
      refine ⟨_, rfl, ?_⟩
      rw [Dmove]
      repeat (first | rw [if_pos (by omega)] | rw [if_neg (by omega)])
      rw [pt]
      exact ⟨rfl, RF.rfl'⟩
    · show jT _ _ 18 _ _ _ _
      refine tl_iload_n rfl rfl ?_
      refine tl_i2l rfl ⟨by omega, by omega⟩ ?_
      show jT _ _ 20 _ _ _ _
      refine tl_iload_n rfl rfl ?_
      refine tl_i2l rfl ⟨by omega, by omega⟩ ?_
      refine tl_ladd rfl ?_
      refine tl_aload_n rfl rfl ?_
      refine tl_iconst rfl ?_
      refine tl_v1i (c9 := 12) (c_sizeOf l _ 1 (by decide) (by decide)) rfl rfl rfl rfl rfl (Nat.le_of_ble_eq_true rfl) (fun z8 h8 p8 => ?_)
      obtain ⟨q8, rfl⟩ := p8
      have q8 := q8.symm
      subst q8
      rw [show (5 + 65 * 1 : Int).toNat = 70 from rfl]
      refine tl_i2l rfl ⟨by omega, by omega⟩ ?_
      show jT _ _ 29 _ _ _ _
      refine tl_lcmp rfl ⟨by omega, by omega⟩ ⟨by omega, by omega⟩ ?_
      refine tl_if_le (tgt := 39) rfl rfl ⟨by omega, by omega⟩ (fun c3 => ?_) (fun c3 => ?_)
      · skip
        refine tl_iload_n rfl rfl ?_
        refine tl_iload_n rfl rfl ?_
        refine tl_icmp_ne (tgt := 51) rfl rfl ⟨by omega, by omega⟩ ⟨by omega, by omega⟩ (fun c4 => ?_) (fun c4 => ?_)
        · skip
          refine tl_aload_n rfl rfl ?_
          refine tl_bipush rfl rfl ?_
          show jT _ _ 54 _ _ _ _
          refine tl_v1v (c9 := 12) (r_remember l _ 7 (by omega) (by omega)) rfl rfl rfl rfl rfl (Nat.le_of_ble_eq_true rfl) (fun hr pr => ?_)
          subst pr
          have e8 : Trem m 7 388 8 = m 388 8 := Trem_n (by decide)
          have e390 : Trem m 7 390 = m 390 := Trem_o (by decide) (by decide) (by decide)
          have e393 : Trem m 7 393 = m 393 := Trem_o (by decide) (by decide) (by decide)
          generalize gM : Trem m 7 = M at e8 e390 e393 ⊢
          refine tl_aload_n rfl rfl ?_
          refine tl_iconst rfl ?_
          refine tl_v1i (c9 := 12) (c_sizeOf l _ 1 (by decide) (by decide)) rfl rfl rfl rfl rfl (Nat.le_of_ble_eq_true rfl) (fun z8 h8 p8 => ?_)
          obtain ⟨q8, rfl⟩ := p8
          have q8 := q8.symm
          subst q8
          rw [show (5 + 65 * 1 : Int).toNat = 70 from rfl]
          rw [e390]
          refine tl_istore rfl (Nat.le_of_ble_eq_true rfl) rfl ?_
          refine tl_iconst rfl ?_
          refine tl_istore rfl (Nat.le_of_ble_eq_true rfl) rfl ?_
          show jT _ _ 67 _ _ _ _
          -- leaf 2 at 67
          have cq : 0 ≤ p ∧ 1 ≤ n ∧ p + n ≤ m 390 70 ∧ 0 ≤ q ∧ n + q ≤ m 390 70 := by omega
          have e0 : M = hw M 395 (va_cpy (M 390) (M 395) 71 0 0) := by rw [cpy_0, hw_self]
          rw [← e390]
          refine jT.mem e0 ?_
          refine r_move_A l M p n q (by rw [e390]; omega) _ ?_ (by rw [e390]; omega) _ 0 (Nat.lt_succ_self _) (Nat.zero_le _)
          rw [e390]
          generalize g4 : hw M 395 (va_cpy (m 390) (M 395) 71 0 (m 390 70).toNat) = m4
          have d390 : m4 390 = M 390 := by rw [← g4, hw_o (by decide)]
          have d394 : m4 394 = M 394 := by rw [← g4, hw_o (by decide)]
          refine tl_aload_n rfl rfl ?_
          refine tl_iload_n rfl rfl ?_
          refine tl_iload_n rfl rfl ?_
          refine tl_v2v (c9 := 12) (r_takeOut l _ p n (by omega) (by omega) (by rw [d390, e390]; omega) (by rw [d390, e390]; omega) (by omega)) rfl rfl rfl rfl rfl (Nat.le_of_ble_eq_true rfl) (fun hA pA => ?_)
          subst pA
          have t70 : Ttake m4 p n 390 70 = m 390 70 - n := by rw [Ttake, hw_s, Rcut, if_pos rfl, d390, e390]
          refine tl_aload_n rfl rfl ?_
          refine tl_iload_n rfl rfl ?_
          show jT _ _ 102 _ _ _ _
          refine tl_iload_n rfl rfl ?_
          refine tl_v2v (c9 := 12) (r_putIn l _ q n (by omega) (by omega) (by rw [t70]; omega) (by rw [t70]; omega) (by rw [t70]; omega)) rfl rfl rfl rfl rfl (Nat.le_of_ble_eq_true rfl) (fun hB pB => ?_)
          subst pB
          refine tl_iconst rfl ?_
          refine tl_istore rfl (Nat.le_of_ble_eq_true rfl) rfl ?_
          refine tl_iconst rfl ?_
          refine tl_istore rfl (Nat.le_of_ble_eq_true rfl) rfl ?_
          show jT _ _ 112 _ _ _ _
          -- leaf 0 at 112
          have d5 : Tmv m4 p n q 390 = Tmv M p n q 390 := by rw [Tmv, Tputin, Tmv, Tputin, hw_s, hw_s, Ttake, Ttake, hw_s, hw_s, hw_o (show (394 : Nat) ≠ 390 by decide), hw_s, hw_o (show (394 : Nat) ≠ 390 by decide), hw_s, d390, d394]
          have d6 : Tmv m4 p n q 395 = m4 395 := by rw [Tmv, Tputin, hw_o (by decide), Ttake, hw_o (by decide), hw_o (by decide)]
          have r5 : RF (Tmv M p n q) (Tmv m4 p n q) := by
            refine ⟨fun x hx => ?_, fun r hr => ?_⟩
            · by_cases e : x = 390
              · subst e; exact d5
              · rw [Tmv, Tputin, hw_o e, Ttake, hw_o e, hw_o (by omega), Tmv, Tputin, hw_o e, Ttake, hw_o e, hw_o (by omega), ← g4, hw_o (by omega)]
            · rw [Tmv, Tputin, hw_o (by decide), Ttake, hw_o (by decide), hw_o (by decide), Tmv, Tputin, hw_o (by decide), Ttake, hw_o (by decide), hw_o (by decide), ← g4, hw_o (by decide)]
          have hbM : ∀ i : Nat, 71 ≤ i → (i : Int) < 71 + M 390 70 → byt (M 390 i) := by
            intro i i1 i2
            rw [e390] at i2 ⊢
            have := (a4 (i - 71) (by omega)).2
            rwa [show 70 + 1 + (i - 71) = i by omega] at this
          have hv := Tmv_b (s := M) (p := p) (n := n) (q := q) (by omega) (by omega) (by rw [e390]; omega) (by omega) (by rw [e390]; omega) hbM
          rw [e390] at hv
          have d7 : ∀ i, i < (m 390 70).toNat → m4 395 i = m 390 (71 + i) := by intro i hi; rw [← g4, hw_s, va_cpy, if_pos (by omega)]; exact congrArg (m 390) (by omega)
          change jT _ _ _ _ _ (Tmv m4 p n q) _
          generalize g5 : Tmv m4 p n q = m5 at d5 d6 r5 ⊢
          have ek : alk (fun i => m 390 (71 + i)) (fun i => Tmv M p n q 390 (71 + i)) (m 390 70).toNat = alk (m5 395) (fun i => m5 390 (71 + i)) (m 390 70).toNat := alk_congr _ (fun i hi => ⟨by rw [d6, d7 i hi], by rw [d5]⟩)
          have ab := alk_b (m5 395) (fun i => m5 390 (71 + i)) (m 390 70).toNat
          rw [show jI (m 390 70) = jI (((m 390 70).toNat : Nat) : Int) by congr 1; omega]
          refine r_move_B l m5 p n q (m 390 70).toNat (by omega) (fun i hi => ⟨by rw [d6, d7 i hi]; exact (a4 i (by omega)).2, by rw [d5]; exact hv i (by omega)⟩) _ ?_ _ 0 (Nat.lt_succ_self _) (Nat.zero_le _)
          refine tl_aload_n rfl rfl ?_
          refine tl_iload rfl rfl ?_
          refine tl_v1i (c9 := 12) (c_tell l _ _ ⟨by omega, by omega⟩ (by omega)) rfl rfl rfl rfl rfl (Nat.le_of_ble_eq_true rfl) (fun zt ht pt => ?_)
          obtain ⟨rfl, pt⟩ := pt
          refine tl_iret rfl ?_
          -- leaf 0 at 158
          refine ⟨_, rfl, ?_⟩
          rw [Dmove, if_pos cq, if_neg (by omega)]
          refine ⟨?_, ?_⟩
          · show _ = m 390 70 - alk _ _ _
            rw [gM, ek, show ((m 390 70).toNat : Int) = m 390 70 by omega]
          · rw [pt]
            show RF (Ttell (Tmv (Trem m 7) p n q) (m 390 70 - alk _ _ _)) (Ttell m5 _)
            rw [gM, ek, show ((m 390 70).toNat : Int) = m 390 70 by omega]
            exact RF.tell r5 _ (by omega)
        · show jT _ _ 44 _ _ _ _
          show jT _ _ 44 _ _ _ _
          refine tl_aload_n rfl rfl ?_
          refine tl_bipush rfl rfl ?_
          refine tl_v1i (c9 := 12) (c_tell l _ _ ⟨by omega, by omega⟩ (by omega)) rfl rfl rfl rfl rfl (Nat.le_of_ble_eq_true rfl) (fun zt ht pt => ?_)
          obtain ⟨rfl, pt⟩ := pt
          refine tl_iret rfl ?_
          -- leaf 3 at 50
          refine ⟨_, rfl, ?_⟩
          rw [Dmove]
          repeat (first | rw [if_pos (by omega)] | rw [if_neg (by omega)])
          rw [pt]
          exact ⟨rfl, RF.rfl'⟩
      · show jT _ _ 33 _ _ _ _
        refine tl_aload_n rfl rfl ?_
        refine tl_iconst rfl ?_
        refine tl_v1i (c9 := 12) (c_tell l _ _ ⟨by omega, by omega⟩ (by omega)) rfl rfl rfl rfl rfl (Nat.le_of_ble_eq_true rfl) (fun zt ht pt => ?_)
        obtain ⟨rfl, pt⟩ := pt
        show jT _ _ 38 _ _ _ _
        refine tl_iret rfl ?_
        -- leaf 4 at 38
        refine ⟨_, rfl, ?_⟩
        rw [Dmove]
        repeat (first | rw [if_pos (by omega)] | rw [if_neg (by omega)])
        rw [pt]
        exact ⟨rfl, RF.rfl'⟩
set_option maxRecDepth 20000 in
set_option maxHeartbeats 1000000 in
theorem k_move_lp (l : Launch) (h S0 : jH) (R : Nat → Int) (S : Nat) (t p n q : Int) (hS : S ≤ 64) (p0 : 0 ≤ p) (n0 : 1 ≤ n) (q0 : 0 ≤ q) (pn : p + n ≤ S) (qn : q + n ≤ S) (s0 : S0 390 70 = (S : Int) - n) (su : ∀ i : Nat, (i : Int) < n → S0 394 i = R (71 + p.toNat + i)) (hb : ∀ i, i < S → byt (R (71 + i))) (P : Option Value → jH → Prop) (hx : ∀ mem, (IC mem (hw S0 390 (Rput (S0 390) (S0 394) q n)) t ∧ mem 386 1 = (S : Int) ∧ (∀ i, i < S → mem 387 i = R (71 + i)) ∧ ∀ x, 388 ≤ x → mem x = h x) → jT l 150 119 [some (.ref 0), some (.int (jI p)), some (.int (jI n)), some (.int (jI q)), some (.int (jI n))] [] mem P) : ∀ (m k : Nat) (mem : jH), n.toNat - k < m → (k : Int) ≤ n → (IC mem (hw S0 390 (Rput (S0 390) (S0 394) q (k : Int))) t ∧ mem 386 1 = (S : Int) ∧ (∀ i, i < S → mem 387 i = R (71 + i)) ∧ ∀ x, 388 ≤ x → mem x = h x) → jT l 150 82 [some (.ref 0), some (.int (jI p)), some (.int (jI n)), some (.int (jI q)), some (.int (jI (k : Int)))] [] mem P := by
  intro m
  induction m with
  | zero => intro k mem hk; omega
  | succ m ih =>
    intro k mem hk hkK hi
    obtain ⟨j1, j2, j3, j4⟩ := hi
    have z70 : hw S0 390 (Rput (S0 390) (S0 394) q (k : Int)) 390 70 = (S : Int) - n + k := by rw [hw_s, Rput, if_pos rfl, s0]
    have hF : RSf mem 4 (hw S0 390 (Rput (S0 390) (S0 394) q (k : Int)) 390) 70 := j1.1.1 1 (by decide)
    have f1 := hF.1
    rw [z70] at f1
    refine tl_iload rfl rfl ?_
    refine tl_iload_n rfl rfl ?_
    refine tl_icmp_ge (tgt := 119) rfl rfl ⟨by omega, by omega⟩ ⟨by omega, by omega⟩ (fun c1 => ?_) (fun c1 => ?_)
    · skip
      show jT _ _ 119 _ _ _ _
      -- leaf 0 at 119
      have e : (k : Int) = n := by omega
      rw [e] at j1 ⊢
      exact hx mem ⟨j1, j2, j3, j4⟩
    · show jT _ _ 88 _ _ _ _
      refine tl_aload_n rfl rfl ?_
      refine tl_getr (c := 11) (k9 := 0) (b := 1) rfl rfl rfl rfl ?_
      refine tl_getr (c := 9) (k9 := 1) (b := 4) rfl rfl rfl rfl ?_
      show jT _ _ 95 _ _ _ _
      refine tl_iload_n rfl rfl ?_
      refine tl_iload rfl rfl ?_
      refine tl_iadd rfl ?_
      refine tl_aload_n rfl rfl ?_
      refine tl_getr (c := 11) (k9 := 19) (b := 386) rfl rfl rfl rfl ?_
      refine tl_iload_n rfl rfl ?_
      refine tl_iload rfl rfl ?_
      show jT _ _ 106 _ _ _ _
      refine tl_iadd rfl ?_
      refine tl_v1i (c9 := 8) (c_Row_get l SPS mem (p + (k : Int)) (by rw [j2]; omega) (by rw [j2]; omega) ⟨by omega, by omega⟩) rfl rfl rfl rfl rfl (Nat.le_of_ble_eq_true rfl) (fun z1 h1 p1 => ?_)
      obtain ⟨e1, p1⟩ := p1
      have e1 := e1.symm
      subst e1
      rw [if_pos (by omega), j3 _ (by omega), show 71 + (p + (k : Int)).toNat = 71 + p.toNat + k by omega] at p1
      have e2 := su k (by omega)
      have hv : byt z1 := by rw [p1, show 71 + p.toNat + k = 71 + (p.toNat + k) by omega]; exact hb _ (by omega)
      refine tl_v2v (c9 := 8) (c_Row_putIn l (RSf_S 1 (by decide)) mem (q + (k : Int)) z1 (by show 0 ≤ mem 4 1; omega) (by show mem 4 1 < _; omega) (by omega) (by show _ ≤ mem 4 1; omega)) rfl rfl rfl rfl rfl (Nat.le_of_ble_eq_true rfl) (fun h2 p2 => ?_)
      have i2 := j1.put (p := q + (k : Int)) (by omega) (by rw [z70]; omega) (by rw [z70]; omega) z1 hv
      have p3 : h2 = hs (hs (hw mem 5 (va_cpy (mem 5) (mem 5) (q + (k : Int)).toNat (q + (k : Int) + 1).toNat (mem 4 1 - (q + (k : Int))).toNat)) 5 (q + (k : Int)).toNat z1) 4 1 (mem 4 1 + 1) := p2
      rw [← p3] at i2
      have fo : ∀ x, 6 ≤ x → h2 x = mem x := fun x x1 => by rw [p3, hs_O (by omega), hs_O (by omega), hw_o (by omega)]
      refine tl_iinc rfl rfl rfl ?_
      refine tl_goto (tgt := 82) rfl rfl ?_
      show jT _ _ 82 _ _ _ _
      -- leaf 1 at 82
      refine ih (k + 1) h2 (by omega) (by omega) ⟨?_, by rw [fo 386 (by omega)]; exact j2, fun i hi => by rw [fo 387 (by omega)]; exact j3 i hi, fun x hx => by rw [fo x (by omega)]; exact j4 x hx⟩
      refine i2.scr (fun x x1 x2 => ?_)
      by_cases ex : x = 390
      · subst ex
        rw [hw_s, Tputin, hw_s, hs_O (by decide), hw_s, show ((k + 1 : Nat) : Int) = (k : Int) + 1 by omega]
        exact (Rput_s q0 (by rw [s0]; omega) (by rw [hs_s, p1, e2])).symm
      · rw [hw_o ex, Tputin, hw_o ex, hs_O (by omega), hw_o ex]
set_option maxRecDepth 20000 in
set_option maxHeartbeats 1000000 in
theorem k_move (l : Launch) (h s : jH) (t p n q : Int) (hI : IC h s t) (hp : jr p) (hn : jr n) (hq : jr q) : cI l 150 [.ref 0, .int (jI p), .int (jI n), .int (jI q)] h (PK h t (Dmove s p n q)) := by
  have p1 := hp.1
  have p2 := hp.2
  have n1 := hn.1
  have n2 := hn.2
  have q1 := hq.1
  have q2 := hq.2
  have hF : RSf h 4 (s 390) 70 := hI.1.1 1 (by decide)
  obtain ⟨a1, a2, a3, a4⟩ := hF
  refine cI.of rfl rfl ?_
  refine tl_aload_n rfl rfl ?_
  refine tl_iload_n rfl rfl ?_
  refine tl_iload_n rfl rfl ?_
  refine tl_v2i (c9 := 11) (k_areSpots l h s t p n hI hp hn) rfl rfl rfl rfl rfl (Nat.le_of_ble_eq_true rfl) (fun zs hs9 ps => ?_)
  obtain ⟨qs, ps⟩ := ps
  have qs := qs.symm
  subst qs
  have bs : zs = 0 ∨ zs = 1 := by rw [ps]; split <;> omega
  refine tl_if_eq (tgt := 29) rfl rfl ⟨by omega, by omega⟩ (fun c1 => ?_) (fun c1 => ?_)
  · skip
    refine tl_aload_n rfl rfl ?_
    show jT _ _ 30 _ _ _ _
    refine tl_iconst rfl ?_
    refine tl_v1i (c9 := 11) (k_refuse l _ _ (by omega) (by omega)) rfl rfl rfl rfl rfl (Nat.le_of_ble_eq_true rfl) (fun zr hr pr => ?_)
    obtain ⟨rfl, rfl⟩ := pr
    refine tl_iret rfl ?_
    -- leaf 0 at 34
    refine ⟨_, rfl, ?_⟩
    rw [Dmove]
    repeat (first | rw [if_pos (by omega)] | rw [if_neg (by omega)])
    exact PK.ref hI (by omega) (by omega)
  · show jT _ _ 9 _ _ _ _
    refine tl_iload_n rfl rfl ?_
    refine tl_if_lt (tgt := 29) rfl rfl ⟨by omega, by omega⟩ (fun c2 => ?_) (fun c2 => ?_)
    · skip
      refine tl_aload_n rfl rfl ?_
      refine tl_iconst rfl ?_
      show jT _ _ 31 _ _ _ _
      refine tl_v1i (c9 := 11) (k_refuse l _ _ (by omega) (by omega)) rfl rfl rfl rfl rfl (Nat.le_of_ble_eq_true rfl) (fun zr hr pr => ?_)
      obtain ⟨rfl, rfl⟩ := pr
      refine tl_iret rfl ?_
      -- leaf 1 at 34
      refine ⟨_, rfl, ?_⟩
      rw [Dmove]
      repeat (first | rw [if_pos (by omega)] | rw [if_neg (by omega)])
      exact PK.ref hI (by omega) (by omega)
    · show jT _ _ 13 _ _ _ _
      refine tl_iload_n rfl rfl ?_
      refine tl_aload_n rfl rfl ?_
      refine tl_getr (c := 11) (k9 := 0) (b := 1) rfl rfl rfl rfl ?_
      refine tl_getr (c := 9) (k9 := 1) (b := 4) rfl rfl rfl rfl ?_
      refine tl_geti (c := 8) (k9 := 1) rfl rfl rfl ?_
      rw [a1]
      show jT _ _ 24 _ _ _ _
      refine tl_iload_n rfl rfl ?_
      refine tl_isub rfl ?_
      refine tl_icmp_le (tgt := 35) rfl rfl ⟨by omega, by omega⟩ ⟨by omega, by omega⟩ (fun c3 => ?_) (fun c3 => ?_)
      · skip
        refine tl_iload_n rfl rfl ?_
        refine tl_iload_n rfl rfl ?_
        refine tl_icmp_ne (tgt := 47) rfl rfl ⟨by omega, by omega⟩ ⟨by omega, by omega⟩ (fun c4 => ?_) (fun c4 => ?_)
        · skip
          refine tl_aload_n rfl rfl ?_
          show jT _ _ 48 _ _ _ _
          refine tl_bipush rfl rfl ?_
          refine tl_v1v (c9 := 11) (k_keep l _ s t 7 hI (by decide) (by decide)) rfl rfl rfl rfl rfl (Nat.le_of_ble_eq_true rfl) (fun h1 p1 => ?_)
          obtain ⟨i1, f1⟩ := p1
          have e8 : Trem s 7 388 8 = s 388 8 := Trem_n (by decide)
          have e390 : Trem s 7 390 = s 390 := Trem_o (by decide) (by decide) (by decide)
          have e393 : Trem s 7 393 = s 393 := Trem_o (by decide) (by decide) (by decide)
          have m1 : h1 4 1 = s 390 70 := by rw [f1 4 (by omega)]; exact a1
          have cq : 0 ≤ p ∧ 1 ≤ n ∧ p + n ≤ s 390 70 ∧ 0 ≤ q ∧ n + q ≤ s 390 70 := by omega
          refine tl_aload_n rfl rfl ?_
          refine tl_getr (c := 11) (k9 := 19) (b := 386) rfl rfl rfl rfl ?_
          refine tl_aload_n rfl rfl ?_
          refine tl_getr (c := 11) (k9 := 0) (b := 1) rfl rfl rfl rfl ?_
          refine tl_getr (c := 9) (k9 := 1) (b := 4) rfl rfl rfl rfl ?_
          show jT _ _ 64 _ _ _ _
          refine tl_v1v (c9 := 8) (k_spare l h1 _ t i1 1 (by decide)) rfl rfl rfl rfl rfl (Nat.le_of_ble_eq_true rfl) (fun h2 p2 => ?_)
          obtain ⟨i2, u1, u2, u3⟩ := p2
          rw [e390] at u1 u2
          have m2 : h2 4 1 = s 390 70 := by rw [u3 4 (by decide) (by decide)]; exact m1
          rw [show (5 + 65 * 1 : Nat) = 70 from rfl] at u1 u2
          refine tl_aload_n rfl rfl ?_
          refine tl_getr (c := 11) (k9 := 0) (b := 1) rfl rfl rfl rfl ?_
          refine tl_getr (c := 9) (k9 := 1) (b := 4) rfl rfl rfl rfl ?_
          refine tl_iload_n rfl rfl ?_
          refine tl_iload_n rfl rfl ?_
          refine tl_v2v (c9 := 8) (c_Row_takeOut l (RSf_S 1 (by decide)) h2 p n (by show h2 4 1 ≤ _; omega) (by omega) (by omega) (by show p + n ≤ h2 4 1; omega)) rfl rfl rfl rfl rfl (Nat.le_of_ble_eq_true rfl) (fun h3 p3 => ?_)
          have i3 := i2.cut (p := p) (n := n) (by omega) (by omega) (by rw [e390]; omega)
          have p4 : h3 = hs (hw h2 5 (va_cpy (h2 5) (h2 5) (p + n).toNat p.toNat (h2 4 1 - p - n).toNat)) 4 1 (h2 4 1 - n) := p3
          rw [← p4] at i3
          have fo : ∀ x, 6 ≤ x → h3 x = h2 x := fun x x1 => by rw [p4, hs_O (by omega), hw_o (by omega)]
          show jT _ _ 79 _ _ _ _
          refine tl_iconst rfl ?_
          refine tl_istore rfl (Nat.le_of_ble_eq_true rfl) rfl ?_
          show jT _ _ 82 _ _ _ _
          -- leaf 2 at 82
          have t70 : Ttake (Trem s 7) p n 390 70 = s 390 70 - n := by rw [Ttake, hw_s, Rcut, if_pos rfl, e390]
          refine k_move_lp l h (Ttake (Trem s 7) p n) (s 390) (s 390 70).toNat t p n q (by omega) (by omega) (by omega) (by omega) (by omega) (by omega) (by rw [t70]; omega) (fun i hi => by rw [Ttake, hw_o (by decide), hw_s, va_cpy, if_pos (by omega), e390]; congr 1; omega) (fun i hi => by have := (a4 i (by omega)).2; rwa [show 70 + 1 + i = 71 + i by omega] at this) _ ?_ _ 0 h3 (Nat.lt_succ_self _) (by omega) ⟨?_, by rw [fo 386 (by omega), u1]; omega, fun i hi => by rw [fo 387 (by omega), u2 i (by omega)], fun x hx => by rw [fo x (by omega), u3 x (by omega) (by omega), f1 x (by omega)]⟩
          · intro mem hi
            obtain ⟨j1, j2, j3, j4⟩ := hi
            change IC mem (Tmv (Trem s 7) p n q) t at j1
            have hG : RSf mem 4 (Tmv (Trem s 7) p n q 390) 70 := j1.1.1 1 (by decide)
            obtain ⟨v1, v2, v3, v4⟩ := hG
            have x70 : Tmv (Trem s 7) p n q 390 70 = s 390 70 := by rw [Tmv, Tputin, hw_s, Rput, if_pos rfl, t70]; omega
            rw [x70] at v1 v2 v3
            have hb2 : ∀ i : Nat, (i : Int) < mem (2 + 2 * 1) 1 → jr (mem (3 + 2 * 1) i) := by
              intro i hi
              have hi2 : (i : Int) < mem 4 1 := hi
              have a := v4 i (by omega)
              have b : mem (3 + 2 * 1) i = Tmv (Trem s 7) p n q 390 (70 + 1 + i) := a.1
              have c := a.2.1
              have d := a.2.2
              exact ⟨by omega, by omega⟩
            refine tl_aload_n rfl rfl ?_
            refine tl_aload_n rfl rfl ?_
            refine tl_getr (c := 11) (k9 := 0) (b := 1) rfl rfl rfl rfl ?_
            refine tl_getr (c := 9) (k9 := 1) (b := 4) rfl rfl rfl rfl ?_
            refine tl_geti (c := 8) (k9 := 1) rfl rfl rfl ?_
            rw [show mem 4 1 = s 390 70 from v1]
            refine tl_aload_n rfl rfl ?_
            show jT _ _ 131 _ _ _ _
            refine tl_getr (c := 11) (k9 := 19) (b := 386) rfl rfl rfl rfl ?_
            refine tl_aload_n rfl rfl ?_
            refine tl_getr (c := 11) (k9 := 0) (b := 1) rfl rfl rfl rfl ?_
            refine tl_getr (c := 9) (k9 := 1) (b := 4) rfl rfl rfl rfl ?_
            refine tl_v1i (c9 := 8) (c_Row_alike l SPS (RSf_S 1 (by decide)) mem (by rw [j2]; omega) (by rw [j2]; omega) (by show 0 ≤ mem 4 1; omega) (by show mem 4 1 ≤ _; omega) (fun i hi => by rw [j2] at hi; rw [j3 i (by omega)]; exact ⟨by have := (a4 i (by omega)).2.1; rw [show 71 + i = 70 + 1 + i by omega]; omega, by have := (a4 i (by omega)).2.2; rw [show 71 + i = 70 + 1 + i by omega]; omega⟩) hb2) rfl rfl rfl rfl rfl (Nat.le_of_ble_eq_true rfl) (fun zk hk9 pk => ?_)
            obtain ⟨ek, pk⟩ := pk
            have ek := ek.symm
            subst ek
            rw [j2, show mem (2 + 2 * 1) 1 = s 390 70 from v1, show (min (((s 390 70).toNat : Nat) : Int) (s 390 70)).toNat = (s 390 70).toNat by omega] at pk
            have ab := alk_b (mem 387) (mem (3 + 2 * 1)) (s 390 70).toNat
            have el : alk (mem 387) (mem (3 + 2 * 1)) (s 390 70).toNat = alk (fun i => s 390 (71 + i)) (fun i => Tmv (Trem s 7) p n q 390 (71 + i)) (s 390 70).toNat := alk_congr _ (fun i hi => ⟨j3 i hi, by have := (v4 i (by rw [x70]; omega)).1; rw [show 70 + 1 + i = 71 + i by omega] at this; exact this⟩)
            refine tl_isub rfl ?_
            refine tl_v1i (c9 := 11) (k_accept l _ _) rfl rfl rfl rfl rfl (Nat.le_of_ble_eq_true rfl) (fun za ha pa => ?_)
            obtain ⟨rfl, rfl⟩ := pa
            show jT _ _ 148 _ _ _ _
            refine tl_iret rfl ?_
            -- leaf 0 at 148
            refine ⟨_, rfl, ?_⟩
            rw [Dmove, if_pos cq, if_neg (by omega), ← el, ← pk]
            exact PK.acc j1 (by omega) j4
          · rw [show ((0 : Nat) : Int) = 0 from rfl, Rput_0, hw_self]; exact i3
        · show jT _ _ 40 _ _ _ _
          refine tl_aload_n rfl rfl ?_
          refine tl_bipush rfl rfl ?_
          refine tl_v1i (c9 := 11) (k_refuse l _ _ (by omega) (by omega)) rfl rfl rfl rfl rfl (Nat.le_of_ble_eq_true rfl) (fun zr hr pr => ?_)
          obtain ⟨rfl, rfl⟩ := pr
          refine tl_iret rfl ?_
          -- leaf 3 at 46
          refine ⟨_, rfl, ?_⟩
          rw [Dmove]
          repeat (first | rw [if_pos (by omega)] | rw [if_neg (by omega)])
          exact PK.ref hI (by omega) (by omega)
      · show jT _ _ 29 _ _ _ _
        refine tl_aload_n rfl rfl ?_
        show jT _ _ 30 _ _ _ _
        refine tl_iconst rfl ?_
        refine tl_v1i (c9 := 11) (k_refuse l _ _ (by omega) (by omega)) rfl rfl rfl rfl rfl (Nat.le_of_ble_eq_true rfl) (fun zr hr pr => ?_)
        obtain ⟨rfl, rfl⟩ := pr
        refine tl_iret rfl ?_
        -- leaf 4 at 34
        refine ⟨_, rfl, ?_⟩
        rw [Dmove]
        repeat (first | rw [if_pos (by omega)] | rw [if_neg (by omega)])
        exact PK.ref hI (by omega) (by omega)
