/-! seal -/
set_option maxRecDepth 20000 in
set_option maxHeartbeats 1000000 in
theorem c_slotCheck_lp (l : Launch) (h : jH) (b u : Nat) (hb : b + 1 + u ≤ 1362) (hy : ∀ i, i < u → byt (h 390 (b + 1 + i))) (P : Option Value → jH → Prop) (hP : P (some (.int (jI (ckF (fun i => h 390 (b + 1 + i)) u)))) h) : ∀ (m k : Nat), u - k < m → k ≤ u → jT l 314 5 [some (.ref 388), some (.int (jI (b : Int))), some (.int (jI (u : Int))), some (.int (jI (ckF (fun i => h 390 (b + 1 + i)) k))), some (.int (jI (k : Int)))] [] h P := by
  intro m
  induction m with
  | zero => intro k hk; omega
  | succ m ih =>
    intro k hk hkK
    have cb := ckF_b (fun i => h 390 (b + 1 + i)) k
    refine tl_iload rfl rfl ?_
    refine tl_iload_n rfl rfl ?_
    refine tl_icmp_ge (tgt := 37) rfl rfl ⟨by omega, by omega⟩ ⟨by omega, by omega⟩ (fun c1 => ?_) (fun c1 => ?_)
    · skip
      refine tl_iload_n rfl rfl ?_
      refine tl_iret rfl ?_
      -- leaf 0 at 38
      have e : k = u := by omega
      subst e
      exact hP
    · show jT _ _ 11 _ _ _ _
      refine tl_iconst rfl ?_
      show jT _ _ 12 _ _ _ _
      refine tl_iload_n rfl rfl ?_
      refine tl_imul rfl ?_
      refine tl_aload_n rfl rfl ?_
      refine tl_getr (c := 12) (k9 := 3) (b := 390) rfl rfl rfl rfl ?_
      refine tl_iload_n rfl rfl ?_
      refine tl_iconst rfl ?_
      refine tl_iadd rfl ?_
      show jT _ _ 21 _ _ _ _
      refine tl_iload rfl rfl ?_
      refine tl_iadd rfl ?_
      refine tl_iald (n := 1362) rfl rfl rfl (by omega) (by omega) ?_
      rw [show ((b : Int) + 1 + (k : Int)).toNat = b + 1 + k by omega]
      have hy1 := (hy k (by omega)).1
      have hy2 := (hy k (by omega)).2
      refine tl_iadd rfl ?_
      refine tl_sipush rfl rfl ?_
      refine tl_irem rfl (by omega) (by omega) (by omega) (by omega) ?_
      refine tl_istore_n rfl (Nat.le_of_ble_eq_true rfl) rfl ?_
      show jT _ _ 31 _ _ _ _
      refine tl_iinc rfl rfl rfl ?_
      refine tl_goto (tgt := 5) rfl rfl ?_
      show jT _ _ 5 _ _ _ _
      -- leaf 1 at 5
      exact ih (k + 1) (by omega) (by omega)
set_option maxRecDepth 20000 in
set_option maxHeartbeats 1000000 in
theorem c_slotCheck (l : Launch) (h : jH) (b u : Nat) (hb : b + 1 + u ≤ 1362) (hy : ∀ i, i < u → byt (h 390 (b + 1 + i))) : cI l 314 [.ref 388, .int (jI (b : Int)), .int (jI (u : Int))] h (fun z h' => h' = h ∧ z = ckF (fun i => h 390 (b + 1 + i)) u) := by
  refine cI.of rfl rfl ?_
  refine tl_iconst rfl ?_
  refine tl_istore_n rfl (Nat.le_of_ble_eq_true rfl) rfl ?_
  refine tl_iconst rfl ?_
  refine tl_istore rfl (Nat.le_of_ble_eq_true rfl) rfl ?_
  show jT _ _ 5 _ _ _ _
  -- leaf 0 at 5
  exact c_slotCheck_lp l h b u hb hy _ ⟨_, rfl, rfl, rfl⟩ _ 0 (Nat.lt_succ_self _) (Nat.zero_le _)
def sck (R : Nat → Int) (k : Int) : Int := ckF (fun i => R ((200 + 301 * k).toNat + 1 + i)) (R (200 + 301 * k).toNat - 2).toNat
def Dseal (s : jH) (k : Int) : Int × jH := if k < 0 ∨ 2 < k then dT s (-1) else if s 390 (200 + 301 * k).toNat = -1 then dT s (-2) else if s 390 (200 + 301 * k).toNat < 2 then dT s (-4) else dT (hs (hs (Trem s 15) 390 (199 + 301 * k + s 390 (200 + 301 * k).toNat).toNat (sck (s 390) k / 256)) 390 (200 + 301 * k + s 390 (200 + 301 * k).toNat).toNat (sck (s 390) k % 256)) (if s 390 (199 + 301 * k + s 390 (200 + 301 * k).toNat).toNat = sck (s 390) k / 256 ∧ s 390 (200 + 301 * k + s 390 (200 + 301 * k).toNat).toNat = sck (s 390) k % 256 then 0 else 1)
theorem Ag.seal {s s' : jH} (h : Ag s s') (k : Int) : AgD (Dseal s k) (Dseal s' k) := by
  unfold Dseal
  rw [h 390 (by decide)]
  split
  · exact h.d _
  · split
    · exact h.d _
    · split
      · exact h.d _
      · exact (((h.rem _).s1 rfl).s1 rfl).d _
set_option maxRecDepth 20000 in
set_option maxHeartbeats 1000000 in
theorem r_seal (l : Launch) (g h : jH) (t k : Int) (hI0 : IC g h t) (hk : jr k) : cI l 315 [.ref 388, .int (jI k)] h (PR (Dseal (Tz h) k)) := by
  have k1 := hk.1
  have k2 := hk.2
  refine cI.of rfl rfl ?_
  refine tl_aload_n rfl rfl ?_
  refine tl_iconst rfl ?_
  refine tl_puti (c := 12) (k9 := 0) rfl rfl rfl rfl ?_
  have hI := hI0.z
  change jT _ _ _ _ _ (Tz h) _
  generalize Tz h = m at hI ⊢
  have nu := hI.nund
  refine tl_iload_n rfl rfl ?_
  refine tl_s1i (c_isSlotR l _ k ⟨by omega, by omega⟩) rfl rfl rfl (Nat.le_of_ble_eq_true rfl) (fun z1 h1 p1 => ?_)
  obtain ⟨q1, p1⟩ := p1
  have q1 := q1.symm
  subst q1
  have b1 : z1 = 0 ∨ z1 = 1 := by rw [p1]; split <;> omega
  have hs3 := fun (c1 : 0 ≤ k) (c2 : k ≤ 2) => hI.slot (f := k) c1 c2
  refine tl_if_ne (tgt := 18) rfl rfl ⟨by omega, by omega⟩ (fun c1 => ?_) (fun c1 => ?_)
  · skip
    show jT _ _ 18 _ _ _ _
    refine tl_aload_n rfl rfl ?_
    refine tl_iload_n rfl rfl ?_
    obtain ⟨a2, a4⟩ := hs3 (by omega) (by omega)
    refine tl_v1i (c9 := 12) (c_has l _ k (by omega) (by omega) ⟨by omega, by omega⟩) rfl rfl rfl rfl rfl (Nat.le_of_ble_eq_true rfl) (fun zh hh9 ph => ?_)
    obtain ⟨qh, ph⟩ := ph
    have qh := qh.symm
    subst qh
    have bh : zh = 0 ∨ zh = 1 := by rw [ph]; split <;> omega
    refine tl_if_ne (tgt := 33) rfl rfl ⟨by omega, by omega⟩ (fun c2 => ?_) (fun c2 => ?_)
    · skip
      refine tl_iload_n rfl rfl ?_
      refine tl_s1i (c_slotAt l _ k) rfl rfl rfl (Nat.le_of_ble_eq_true rfl) (fun z6 h6 p6 => ?_)
      obtain ⟨q6, rfl⟩ := p6
      have q6 := q6.symm
      subst q6
      refine tl_istore_n rfl (Nat.le_of_ble_eq_true rfl) rfl ?_
      show jT _ _ 38 _ _ _ _
      refine tl_aload_n rfl rfl ?_
      refine tl_getr (c := 12) (k9 := 3) (b := 390) rfl rfl rfl rfl ?_
      refine tl_iload_n rfl rfl ?_
      refine tl_iald (n := 1362) rfl rfl rfl (by omega) (by omega) ?_
      refine tl_istore_n rfl (Nat.le_of_ble_eq_true rfl) rfl ?_
      refine tl_iload_n rfl rfl ?_
      refine tl_iconst rfl ?_
      show jT _ _ 47 _ _ _ _
      refine tl_icmp_ge (tgt := 57) rfl rfl ⟨by omega, by omega⟩ ⟨by omega, by omega⟩ (fun c3 => ?_) (fun c3 => ?_)
      · skip
        refine tl_aload_n rfl rfl ?_
        refine tl_bipush rfl rfl ?_
        refine tl_v1v (c9 := 12) (r_remember l _ 15 (by omega) (by omega)) rfl rfl rfl rfl rfl (Nat.le_of_ble_eq_true rfl) (fun hr pr => ?_)
        subst pr
        have e8 : Trem m 15 388 8 = m 388 8 := Trem_n (by decide)
        have e390 : Trem m 15 390 = m 390 := Trem_o (by decide) (by decide) (by decide)
        have e393 : Trem m 15 393 = m 393 := Trem_o (by decide) (by decide) (by decide)
        generalize gM : Trem m 15 = M at e8 e390 e393 ⊢
        refine tl_aload_n rfl rfl ?_
        refine tl_iload_n rfl rfl ?_
        refine tl_iload_n rfl rfl ?_
        show jT _ _ 66 _ _ _ _
        refine tl_iconst rfl ?_
        refine tl_isub rfl ?_
        rw [show jI (200 + 301 * k) = jI (((200 + 301 * k).toNat : Nat) : Int) by congr 1; omega, show jI (m 390 (200 + 301 * k).toNat - 2) = jI (((m 390 (200 + 301 * k).toNat - 2).toNat : Nat) : Int) by congr 1; omega]
        refine tl_v2i (c9 := 12) (c_slotCheck l _ (200 + 301 * k).toNat (m 390 (200 + 301 * k).toNat - 2).toNat (by omega) (fun i hi => by rw [e390]; have := a4 i (by omega); rw [show (200 + 301 * k).toNat + 1 + i = (201 + 301 * k).toNat + i by omega]; exact this)) rfl rfl rfl rfl rfl (Nat.le_of_ble_eq_true rfl) (fun zc hc pc9 => ?_)
        obtain ⟨qc, pc9⟩ := pc9
        have qc := qc.symm
        subst qc
        rw [e390] at pc9
        have pcs : zc = sck (m 390) k := pc9
        have cb := ckF_b (fun i => m 390 ((200 + 301 * k).toNat + 1 + i)) (m 390 (200 + 301 * k).toNat - 2).toNat
        rw [← pc9] at cb
        have y1 := a4 (m 390 (200 + 301 * k).toNat - 2).toNat (by omega)
        rw [show (201 + 301 * k).toNat + (m 390 (200 + 301 * k).toNat - 2).toNat = (199 + 301 * k + m 390 (200 + 301 * k).toNat).toNat by omega] at y1
        obtain ⟨y1, y2⟩ := y1
        have y3 := a4 (m 390 (200 + 301 * k).toNat - 1).toNat (by omega)
        rw [show (201 + 301 * k).toNat + (m 390 (200 + 301 * k).toNat - 1).toNat = (200 + 301 * k + m 390 (200 + 301 * k).toNat).toNat by omega] at y3
        obtain ⟨y3, y4⟩ := y3
        rw [show jI (((200 + 301 * k).toNat : Nat) : Int) = jI (200 + 301 * k) by congr 1; omega]
        refine tl_istore rfl (Nat.le_of_ble_eq_true rfl) rfl ?_
        refine tl_aload_n rfl rfl ?_
        refine tl_getr (c := 12) (k9 := 3) (b := 390) rfl rfl rfl rfl ?_
        refine tl_iload_n rfl rfl ?_
        show jT _ _ 78 _ _ _ _
        refine tl_iload_n rfl rfl ?_
        refine tl_iadd rfl ?_
        refine tl_iconst rfl ?_
        refine tl_isub rfl ?_
        refine tl_iald (n := 1362) rfl rfl rfl (by omega) (by omega) ?_
        rw [e390]
        rw [show ((200 : Int) + 301 * k + m 390 (200 + 301 * k).toNat - 1).toNat = (199 + 301 * k + m 390 (200 + 301 * k).toNat).toNat by omega]
        refine tl_iload rfl rfl ?_
        refine tl_sipush rfl rfl ?_
        show jT _ _ 88 _ _ _ _
        refine tl_idiv rfl (by omega) (by omega) (by omega) (by omega) ?_
        refine tl_icmp_ne (tgt := 113) rfl rfl ⟨by omega, by omega⟩ ⟨by omega, by omega⟩ (fun c4 => ?_) (fun c4 => ?_)
        · skip
          refine tl_iconst rfl ?_
          refine tl_istore rfl (Nat.le_of_ble_eq_true rfl) rfl ?_
          refine tl_aload_n rfl rfl ?_
          refine tl_getr (c := 12) (k9 := 3) (b := 390) rfl rfl rfl rfl ?_
          refine tl_iload_n rfl rfl ?_
          show jT _ _ 121 _ _ _ _
          refine tl_iload_n rfl rfl ?_
          refine tl_iadd rfl ?_
          refine tl_iconst rfl ?_
          refine tl_isub rfl ?_
          refine tl_iload rfl rfl ?_
          refine tl_sipush rfl rfl ?_
          refine tl_idiv rfl (by omega) (by omega) (by omega) (by omega) ?_
          show jT _ _ 131 _ _ _ _
          refine tl_iast (n := 1362) rfl rfl rfl (by omega) (by omega) ?_
          rw [show ((200 : Int) + 301 * k + m 390 (200 + 301 * k).toNat - 1).toNat = (199 + 301 * k + m 390 (200 + 301 * k).toNat).toNat by omega]
          refine tl_aload_n rfl rfl ?_
          refine tl_getr (c := 12) (k9 := 3) (b := 390) rfl rfl rfl rfl ?_
          refine tl_iload_n rfl rfl ?_
          refine tl_iload_n rfl rfl ?_
          refine tl_iadd rfl ?_
          refine tl_iload rfl rfl ?_
          show jT _ _ 141 _ _ _ _
          refine tl_sipush rfl rfl ?_
          refine tl_irem rfl (by omega) (by omega) (by omega) (by omega) ?_
          refine tl_iast (n := 1362) rfl rfl rfl (by omega) (by omega) ?_
          refine tl_aload_n rfl rfl ?_
          refine tl_iload rfl rfl ?_
          refine tl_v1i (c9 := 12) (c_tell l _ _ ⟨by omega, by omega⟩ (by omega)) rfl rfl rfl rfl rfl (Nat.le_of_ble_eq_true rfl) (fun zt ht pt => ?_)
          obtain ⟨rfl, pt⟩ := pt
          refine tl_iret rfl ?_
          -- leaf 0 at 152
          refine ⟨_, rfl, ?_⟩
          rw [Dseal, ← pcs]
          repeat (first | rw [if_pos (by omega)] | rw [if_neg (by omega)])
          rw [gM]
          exact ⟨rfl, pt⟩
        · show jT _ _ 92 _ _ _ _
          show jT _ _ 92 _ _ _ _
          refine tl_aload_n rfl rfl ?_
          refine tl_getr (c := 12) (k9 := 3) (b := 390) rfl rfl rfl rfl ?_
          refine tl_iload_n rfl rfl ?_
          refine tl_iload_n rfl rfl ?_
          refine tl_iadd rfl ?_
          refine tl_iald (n := 1362) rfl rfl rfl (by omega) (by omega) ?_
          rw [e390]
          refine tl_iload rfl rfl ?_
          show jT _ _ 102 _ _ _ _
          refine tl_sipush rfl rfl ?_
          refine tl_irem rfl (by omega) (by omega) (by omega) (by omega) ?_
          refine tl_icmp_ne (tgt := 113) rfl rfl ⟨by omega, by omega⟩ ⟨by omega, by omega⟩ (fun c5 => ?_) (fun c5 => ?_)
          · skip
            refine tl_iconst rfl ?_
            refine tl_istore rfl (Nat.le_of_ble_eq_true rfl) rfl ?_
            refine tl_aload_n rfl rfl ?_
            refine tl_getr (c := 12) (k9 := 3) (b := 390) rfl rfl rfl rfl ?_
            show jT _ _ 120 _ _ _ _
            refine tl_iload_n rfl rfl ?_
            refine tl_iload_n rfl rfl ?_
            refine tl_iadd rfl ?_
            refine tl_iconst rfl ?_
            refine tl_isub rfl ?_
            refine tl_iload rfl rfl ?_
            refine tl_sipush rfl rfl ?_
            show jT _ _ 130 _ _ _ _
            refine tl_idiv rfl (by omega) (by omega) (by omega) (by omega) ?_
            refine tl_iast (n := 1362) rfl rfl rfl (by omega) (by omega) ?_
            rw [show ((200 : Int) + 301 * k + m 390 (200 + 301 * k).toNat - 1).toNat = (199 + 301 * k + m 390 (200 + 301 * k).toNat).toNat by omega]
            refine tl_aload_n rfl rfl ?_
            refine tl_getr (c := 12) (k9 := 3) (b := 390) rfl rfl rfl rfl ?_
            refine tl_iload_n rfl rfl ?_
            refine tl_iload_n rfl rfl ?_
            refine tl_iadd rfl ?_
            show jT _ _ 139 _ _ _ _
            refine tl_iload rfl rfl ?_
            refine tl_sipush rfl rfl ?_
            refine tl_irem rfl (by omega) (by omega) (by omega) (by omega) ?_
            refine tl_iast (n := 1362) rfl rfl rfl (by omega) (by omega) ?_
            refine tl_aload_n rfl rfl ?_
            refine tl_iload rfl rfl ?_
            refine tl_v1i (c9 := 12) (c_tell l _ _ ⟨by omega, by omega⟩ (by omega)) rfl rfl rfl rfl rfl (Nat.le_of_ble_eq_true rfl) (fun zt ht pt => ?_)
            obtain ⟨rfl, pt⟩ := pt
            show jT _ _ 152 _ _ _ _
            refine tl_iret rfl ?_
            -- leaf 1 at 152
            refine ⟨_, rfl, ?_⟩
            rw [Dseal, ← pcs]
            repeat (first | rw [if_pos (by omega)] | rw [if_neg (by omega)])
            rw [gM]
            exact ⟨rfl, pt⟩
          · show jT _ _ 109 _ _ _ _
            refine tl_iconst rfl ?_
            refine tl_goto (tgt := 114) rfl rfl ?_
            refine tl_istore rfl (Nat.le_of_ble_eq_true rfl) rfl ?_
            refine tl_aload_n rfl rfl ?_
            refine tl_getr (c := 12) (k9 := 3) (b := 390) rfl rfl rfl rfl ?_
            refine tl_iload_n rfl rfl ?_
            show jT _ _ 121 _ _ _ _
            refine tl_iload_n rfl rfl ?_
            refine tl_iadd rfl ?_
            refine tl_iconst rfl ?_
            refine tl_isub rfl ?_
            refine tl_iload rfl rfl ?_
            refine tl_sipush rfl rfl ?_
            refine tl_idiv rfl (by omega) (by omega) (by omega) (by omega) ?_
            show jT _ _ 131 _ _ _ _
            refine tl_iast (n := 1362) rfl rfl rfl (by omega) (by omega) ?_
            rw [show ((200 : Int) + 301 * k + m 390 (200 + 301 * k).toNat - 1).toNat = (199 + 301 * k + m 390 (200 + 301 * k).toNat).toNat by omega]
            refine tl_aload_n rfl rfl ?_
            refine tl_getr (c := 12) (k9 := 3) (b := 390) rfl rfl rfl rfl ?_
            refine tl_iload_n rfl rfl ?_
            refine tl_iload_n rfl rfl ?_
            refine tl_iadd rfl ?_
            refine tl_iload rfl rfl ?_
            show jT _ _ 141 _ _ _ _
            refine tl_sipush rfl rfl ?_
            refine tl_irem rfl (by omega) (by omega) (by omega) (by omega) ?_
            refine tl_iast (n := 1362) rfl rfl rfl (by omega) (by omega) ?_
            refine tl_aload_n rfl rfl ?_
            refine tl_iload rfl rfl ?_
            refine tl_v1i (c9 := 12) (c_tell l _ _ ⟨by omega, by omega⟩ (by omega)) rfl rfl rfl rfl rfl (Nat.le_of_ble_eq_true rfl) (fun zt ht pt => ?_)
            obtain ⟨rfl, pt⟩ := pt
            refine tl_iret rfl ?_
            -- leaf 2 at 152
            refine ⟨_, rfl, ?_⟩
            rw [Dseal, ← pcs]
            repeat (first | rw [if_pos (by omega)] | rw [if_neg (by omega)])
            rw [gM]
            exact ⟨rfl, pt⟩
      · show jT _ _ 50 _ _ _ _
        show jT _ _ 50 _ _ _ _
        refine tl_aload_n rfl rfl ?_
        refine tl_bipush rfl rfl ?_
        refine tl_v1i (c9 := 12) (c_tell l _ _ ⟨by omega, by omega⟩ (by omega)) rfl rfl rfl rfl rfl (Nat.le_of_ble_eq_true rfl) (fun zt ht pt => ?_)
        obtain ⟨rfl, pt⟩ := pt
        refine tl_iret rfl ?_
        -- leaf 3 at 56
        refine ⟨_, rfl, ?_⟩
        rw [Dseal]
        repeat (first | rw [if_pos (by omega)] | rw [if_neg (by omega)])
        exact ⟨rfl, pt⟩
    · show jT _ _ 26 _ _ _ _
      refine tl_aload_n rfl rfl ?_
      refine tl_bipush rfl rfl ?_
      refine tl_v1i (c9 := 12) (c_tell l _ _ ⟨by omega, by omega⟩ (by omega)) rfl rfl rfl rfl rfl (Nat.le_of_ble_eq_true rfl) (fun zt ht pt => ?_)
      obtain ⟨rfl, pt⟩ := pt
      show jT _ _ 32 _ _ _ _
      refine tl_iret rfl ?_
      -- leaf 4 at 32
      refine ⟨_, rfl, ?_⟩
      rw [Dseal]
      repeat (first | rw [if_pos (by omega)] | rw [if_neg (by omega)])
      exact ⟨rfl, pt⟩
  · show jT _ _ 12 _ _ _ _
    refine tl_aload_n rfl rfl ?_
    refine tl_iconst rfl ?_
    refine tl_v1i (c9 := 12) (c_tell l _ _ ⟨by omega, by omega⟩ (by omega)) rfl rfl rfl rfl rfl (Nat.le_of_ble_eq_true rfl) (fun zt ht pt => ?_)
    obtain ⟨rfl, pt⟩ := pt
    refine tl_iret rfl ?_
    -- leaf 5 at 17
    refine ⟨_, rfl, ?_⟩
    rw [Dseal]
    repeat (first | rw [if_pos (by omega)] | rw [if_neg (by omega)])
    exact ⟨rfl, pt⟩
set_option maxRecDepth 20000 in
set_option maxHeartbeats 1000000 in
theorem k_seal (l : Launch) (h s : jH) (t k : Int) (hI : IC h s t) (hk : jr k) : cI l 161 [.ref 0, .int (jI k)] h (PK h t (Dseal s k)) := by
  have k1 := hk.1
  have k2 := hk.2
  refine cI.of rfl rfl ?_
  refine tl_iload_n rfl rfl ?_
  refine tl_s1i (k_isSlot l _ k ⟨by omega, by omega⟩) rfl rfl rfl (Nat.le_of_ble_eq_true rfl) (fun zs hs9 ps => ?_)
  obtain ⟨qs, ps⟩ := ps
  have qs := qs.symm
  subst qs
  have bs : zs = 0 ∨ zs = 1 := by rw [ps]; split <;> omega
  refine tl_if_ne (tgt := 13) rfl rfl ⟨by omega, by omega⟩ (fun c1 => ?_) (fun c1 => ?_)
  · skip
    refine tl_aload_n rfl rfl ?_
    refine tl_iload_n rfl rfl ?_
    refine tl_v1i (c9 := 11) (k_isFull l _ _ hI.1 k ⟨by omega, by omega⟩) rfl rfl rfl rfl rfl (Nat.le_of_ble_eq_true rfl) (fun zf hf9 pf => ?_)
    obtain ⟨qf, pf⟩ := pf
    have qf := qf.symm
    subst qf
    have bf : zf = 0 ∨ zf = 1 := by rw [pf]; split <;> omega
    have hS := RSs_S k.toNat (by omega)
    have hF := hI.1.2.1 k.toNat (by omega)
    have eo : (200 + 301 * k.toNat : Nat) = (200 + 301 * k).toNat := by omega
    rw [eo, show 1 + 8 + 2 * k.toNat = 9 + 2 * k.toNat by omega] at hF
    obtain ⟨a1, a2, a4⟩ := hF
    rw [show 9 + 2 * k.toNat + 1 = 10 + 2 * k.toNat by omega] at a4
    show jT _ _ 18 _ _ _ _
    refine tl_if_ne (tgt := 28) rfl rfl ⟨by omega, by omega⟩ (fun c2 => ?_) (fun c2 => ?_)
    · skip
      refine tl_aload_n rfl rfl ?_
      refine tl_getr (c := 11) (k9 := 0) (b := 1) rfl rfl rfl rfl ?_
      refine tl_getr (c := 9) (k9 := 3) (b := 8) rfl rfl rfl rfl ?_
      refine tl_iload_n rfl rfl ?_
      refine tl_aald (n := 3) rfl (Or.inl rfl) rfl (by omega) (by omega) (sr8 k.toNat (by omega)) ?_
      refine tl_astore_n rfl (Nat.le_of_ble_eq_true rfl) rfl ?_
      show jT _ _ 38 _ _ _ _
      refine tl_aload_n rfl rfl ?_
      refine tl_geti (c := 8) (k9 := 1) rfl hS.1 rfl ?_
      have a1n : h (9 + 2 * k.toNat) 1 = s 390 (200 + 301 * k).toNat := by rw [a1, if_neg (by omega)]
      rw [a1n]
      refine tl_iconst rfl ?_
      refine tl_icmp_ge (tgt := 53) rfl rfl ⟨by omega, by omega⟩ ⟨by omega, by omega⟩ (fun c3 => ?_) (fun c3 => ?_)
      · skip
        refine tl_aload_n rfl rfl ?_
        refine tl_bipush rfl rfl ?_
        refine tl_v1v (c9 := 11) (k_keep l _ s t 15 hI (by decide) (by decide)) rfl rfl rfl rfl rfl (Nat.le_of_ble_eq_true rfl) (fun h1 p1 => ?_)
        obtain ⟨i1, f1⟩ := p1
        have e8 : Trem s 15 388 8 = s 388 8 := Trem_n (by decide)
        have e390 : Trem s 15 390 = s 390 := Trem_o (by decide) (by decide) (by decide)
        have e393 : Trem s 15 393 = s 393 := Trem_o (by decide) (by decide) (by decide)
        have n1 : h1 (9 + 2 * k.toNat) = h (9 + 2 * k.toNat) := f1 _ (by omega)
        have n2 : h1 (10 + 2 * k.toNat) = h (10 + 2 * k.toNat) := f1 _ (by omega)
        have n3 : h1 (9 + 2 * k.toNat) 1 = s 390 (200 + 301 * k).toNat := by rw [n1, a1n]
        have n4 : ∀ i : Nat, (i : Int) < s 390 (200 + 301 * k).toNat → h1 (10 + 2 * k.toNat) i = s 390 ((200 + 301 * k).toNat + 1 + i) ∧ byt (s 390 ((200 + 301 * k).toNat + 1 + i)) := fun i hi => by rw [n2]; exact a4 i hi
        show jT _ _ 59 _ _ _ _
        refine tl_aload_n rfl rfl ?_
        refine tl_geti (c := 8) (k9 := 1) rfl hS.1 rfl ?_
        rw [n3]
        refine tl_iconst rfl ?_
        refine tl_isub rfl ?_
        refine tl_istore_n rfl (Nat.le_of_ble_eq_true rfl) rfl ?_
        refine tl_aload_n rfl rfl ?_
        refine tl_iload_n rfl rfl ?_
        show jT _ _ 68 _ _ _ _
        refine tl_v1i (c9 := 8) (c_Row_check l hS _ (s 390 (200 + 301 * k).toNat - 2) ⟨by omega, by omega⟩ (by omega) (by omega) (fun i hi => by rw [n3] at hi; obtain ⟨u1, u2, u3⟩ := n4 i hi; rw [u1]; omega)) rfl rfl rfl hS.1 rfl (Nat.le_of_ble_eq_true rfl) (fun zc hc pc9 => ?_)
        obtain ⟨qc, pc9⟩ := pc9
        have qc := qc.symm
        subst qc
        have cb := ckF_b (h1 (10 + 2 * k.toNat)) (min (s 390 (200 + 301 * k).toNat - 2).toNat (h1 (9 + 2 * k.toNat) 1).toNat)
        rw [← pc9] at cb
        have pcs : zc = sck (s 390) k := by
          rw [pc9, n3, show min (s 390 (200 + 301 * k).toNat - 2).toNat (s 390 (200 + 301 * k).toNat).toNat = (s 390 (200 + 301 * k).toNat - 2).toNat by omega]
          exact ckF_congr _ (fun i hi => (n4 i (by omega)).1)
        refine tl_istore rfl (Nat.le_of_ble_eq_true rfl) rfl ?_
        refine tl_aload_n rfl rfl ?_
        refine tl_iload_n rfl rfl ?_
        refine tl_v1i (c9 := 8) (c_Row_get l hS _ (s 390 (200 + 301 * k).toNat - 2) (by omega) (by omega) ⟨by omega, by omega⟩) rfl rfl rfl hS.1 rfl (Nat.le_of_ble_eq_true rfl) (fun zg1 hg1 pg1 => ?_)
        obtain ⟨qg1, pg1⟩ := pg1
        have qg1 := qg1.symm
        subst qg1
        rw [if_pos (by omega)] at pg1
        obtain ⟨y1, u1, v1⟩ := n4 (s 390 (200 + 301 * k).toNat - 2).toNat (by omega)
        rw [y1, show (200 + 301 * k).toNat + 1 + (s 390 (200 + 301 * k).toNat - 2).toNat = (199 + 301 * k + s 390 (200 + 301 * k).toNat).toNat by omega] at pg1
        rw [show (200 + 301 * k).toNat + 1 + (s 390 (200 + 301 * k).toNat - 2).toNat = (199 + 301 * k + s 390 (200 + 301 * k).toNat).toNat by omega] at u1 v1
        refine tl_iload rfl rfl ?_
        refine tl_sipush rfl rfl ?_
        show jT _ _ 83 _ _ _ _
        refine tl_idiv rfl (by omega) (by omega) (by omega) (by omega) ?_
        refine tl_icmp_ne (tgt := 107) rfl rfl ⟨by omega, by omega⟩ ⟨by omega, by omega⟩ (fun c4 => ?_) (fun c4 => ?_)
        · skip
          refine tl_iconst rfl ?_
          refine tl_istore rfl (Nat.le_of_ble_eq_true rfl) rfl ?_
          refine tl_aload_n rfl rfl ?_
          refine tl_iload_n rfl rfl ?_
          refine tl_iload rfl rfl ?_
          show jT _ _ 114 _ _ _ _
          refine tl_sipush rfl rfl ?_
          refine tl_idiv rfl (by omega) (by omega) (by omega) (by omega) ?_
          refine tl_v2v (c9 := 8) (c_Row_change l hS _ (s 390 (200 + 301 * k).toNat - 2) (zc / 256) (by omega) (by omega) ⟨by omega, by omega⟩) rfl rfl rfl hS.1 rfl (Nat.le_of_ble_eq_true rfl) (fun h2 p2 => ?_)
          rw [if_pos (by omega)] at p2
          have n5 : h2 (9 + 2 * k.toNat) 1 = s 390 (200 + 301 * k).toNat := by rw [p2, hs_o (by omega), n3]
          refine tl_aload_n rfl rfl ?_
          refine tl_iload_n rfl rfl ?_
          refine tl_iconst rfl ?_
          refine tl_iadd rfl ?_
          show jT _ _ 125 _ _ _ _
          refine tl_iload rfl rfl ?_
          refine tl_sipush rfl rfl ?_
          refine tl_irem rfl (by omega) (by omega) (by omega) (by omega) ?_
          refine tl_v2v (c9 := 8) (c_Row_change l hS _ (s 390 (200 + 301 * k).toNat - 2 + 1) (zc % 256) (by omega) (by omega) ⟨by omega, by omega⟩) rfl rfl rfl hS.1 rfl (Nat.le_of_ble_eq_true rfl) (fun h3 p3 => ?_)
          rw [if_pos (by omega)] at p3
          refine tl_aload_n rfl rfl ?_
          refine tl_iload rfl rfl ?_
          refine tl_if_eq (tgt := 144) rfl rfl ⟨by omega, by omega⟩ (fun c5 => ?_) (fun c5 => ?_)
          · skip
            show jT _ _ 144 _ _ _ _
            refine tl_iconst rfl ?_
            refine tl_v1i (c9 := 11) (k_accept l _ _) rfl rfl rfl rfl rfl (Nat.le_of_ble_eq_true rfl) (fun za ha pa => ?_)
            obtain ⟨rfl, rfl⟩ := pa
            refine tl_iret rfl ?_
            -- leaf 0 at 148
            first
              | (exfalso; omega)
              | (refine ⟨_, rfl, ?_⟩
                 rw [Dseal, ← pcs]
                 repeat (first | rw [if_pos (by omega)] | rw [if_neg (by omega)])
                 have i2 := i1.sset k.toNat (by omega) (s 390 (200 + 301 * k).toNat - 2).toNat (by rw [e390, eo]; omega) (zc / 256) ⟨by omega, by omega⟩
                 have i3 := i2.sset k.toNat (by omega) (s 390 (200 + 301 * k).toNat - 2 + 1).toNat (by rw [hs_k (by omega), e390, eo]; omega) (zc % 256) ⟨by omega, by omega⟩
                 rw [show 201 + 301 * k.toNat + (s 390 (200 + 301 * k).toNat - 2).toNat = (199 + 301 * k + s 390 (200 + 301 * k).toNat).toNat by omega, show 201 + 301 * k.toNat + (s 390 (200 + 301 * k).toNat - 2 + 1).toNat = (200 + 301 * k + s 390 (200 + 301 * k).toNat).toNat by omega, ← p2, ← p3] at i3
                 exact PK.acc i3 (by decide) (fun x hx => by rw [p3, hs_O (by omega), p2, hs_O (by omega), f1 x (by omega)]))
          · show jT _ _ 140 _ _ _ _
            refine tl_iconst rfl ?_
            refine tl_goto (tgt := 145) rfl rfl ?_
            refine tl_v1i (c9 := 11) (k_accept l _ _) rfl rfl rfl rfl rfl (Nat.le_of_ble_eq_true rfl) (fun za ha pa => ?_)
            obtain ⟨rfl, rfl⟩ := pa
            refine tl_iret rfl ?_
            -- leaf 1 at 148
            first
              | (exfalso; omega)
              | (refine ⟨_, rfl, ?_⟩
                 rw [Dseal, ← pcs]
                 repeat (first | rw [if_pos (by omega)] | rw [if_neg (by omega)])
                 have i2 := i1.sset k.toNat (by omega) (s 390 (200 + 301 * k).toNat - 2).toNat (by rw [e390, eo]; omega) (zc / 256) ⟨by omega, by omega⟩
                 have i3 := i2.sset k.toNat (by omega) (s 390 (200 + 301 * k).toNat - 2 + 1).toNat (by rw [hs_k (by omega), e390, eo]; omega) (zc % 256) ⟨by omega, by omega⟩
                 rw [show 201 + 301 * k.toNat + (s 390 (200 + 301 * k).toNat - 2).toNat = (199 + 301 * k + s 390 (200 + 301 * k).toNat).toNat by omega, show 201 + 301 * k.toNat + (s 390 (200 + 301 * k).toNat - 2 + 1).toNat = (200 + 301 * k + s 390 (200 + 301 * k).toNat).toNat by omega, ← p2, ← p3] at i3
                 exact PK.acc i3 (by decide) (fun x hx => by rw [p3, hs_O (by omega), p2, hs_O (by omega), f1 x (by omega)]))
        · show jT _ _ 87 _ _ _ _
          show jT _ _ 87 _ _ _ _
          refine tl_aload_n rfl rfl ?_
          refine tl_iload_n rfl rfl ?_
          refine tl_iconst rfl ?_
          refine tl_iadd rfl ?_
          refine tl_v1i (c9 := 8) (c_Row_get l hS _ (s 390 (200 + 301 * k).toNat - 2 + 1) (by omega) (by omega) ⟨by omega, by omega⟩) rfl rfl rfl hS.1 rfl (Nat.le_of_ble_eq_true rfl) (fun zg2 hg2 pg2 => ?_)
          obtain ⟨qg2, pg2⟩ := pg2
          have qg2 := qg2.symm
          subst qg2
          rw [if_pos (by omega)] at pg2
          obtain ⟨y2, u2, v2⟩ := n4 (s 390 (200 + 301 * k).toNat - 2 + 1).toNat (by omega)
          rw [y2, show (200 + 301 * k).toNat + 1 + (s 390 (200 + 301 * k).toNat - 2 + 1).toNat = (200 + 301 * k + s 390 (200 + 301 * k).toNat).toNat by omega] at pg2
          rw [show (200 + 301 * k).toNat + 1 + (s 390 (200 + 301 * k).toNat - 2 + 1).toNat = (200 + 301 * k + s 390 (200 + 301 * k).toNat).toNat by omega] at u2 v2
          refine tl_iload rfl rfl ?_
          refine tl_sipush rfl rfl ?_
          show jT _ _ 99 _ _ _ _
          refine tl_irem rfl (by omega) (by omega) (by omega) (by omega) ?_
          refine tl_icmp_ne (tgt := 107) rfl rfl ⟨by omega, by omega⟩ ⟨by omega, by omega⟩ (fun c6 => ?_) (fun c6 => ?_)
          · skip
            refine tl_iconst rfl ?_
            refine tl_istore rfl (Nat.le_of_ble_eq_true rfl) rfl ?_
            refine tl_aload_n rfl rfl ?_
            refine tl_iload_n rfl rfl ?_
            refine tl_iload rfl rfl ?_
            show jT _ _ 114 _ _ _ _
            refine tl_sipush rfl rfl ?_
            refine tl_idiv rfl (by omega) (by omega) (by omega) (by omega) ?_
            refine tl_v2v (c9 := 8) (c_Row_change l hS _ (s 390 (200 + 301 * k).toNat - 2) (zc / 256) (by omega) (by omega) ⟨by omega, by omega⟩) rfl rfl rfl hS.1 rfl (Nat.le_of_ble_eq_true rfl) (fun h2 p2 => ?_)
            rw [if_pos (by omega)] at p2
            have n5 : h2 (9 + 2 * k.toNat) 1 = s 390 (200 + 301 * k).toNat := by rw [p2, hs_o (by omega), n3]
            refine tl_aload_n rfl rfl ?_
            refine tl_iload_n rfl rfl ?_
            refine tl_iconst rfl ?_
            refine tl_iadd rfl ?_
            show jT _ _ 125 _ _ _ _
            refine tl_iload rfl rfl ?_
            refine tl_sipush rfl rfl ?_
            refine tl_irem rfl (by omega) (by omega) (by omega) (by omega) ?_
            refine tl_v2v (c9 := 8) (c_Row_change l hS _ (s 390 (200 + 301 * k).toNat - 2 + 1) (zc % 256) (by omega) (by omega) ⟨by omega, by omega⟩) rfl rfl rfl hS.1 rfl (Nat.le_of_ble_eq_true rfl) (fun h3 p3 => ?_)
            rw [if_pos (by omega)] at p3
            refine tl_aload_n rfl rfl ?_
            refine tl_iload rfl rfl ?_
            refine tl_if_eq (tgt := 144) rfl rfl ⟨by omega, by omega⟩ (fun c7 => ?_) (fun c7 => ?_)
            · skip
              show jT _ _ 144 _ _ _ _
              refine tl_iconst rfl ?_
              refine tl_v1i (c9 := 11) (k_accept l _ _) rfl rfl rfl rfl rfl (Nat.le_of_ble_eq_true rfl) (fun za ha pa => ?_)
              obtain ⟨rfl, rfl⟩ := pa
              refine tl_iret rfl ?_
              -- leaf 2 at 148
              first
                | (exfalso; omega)
                | (refine ⟨_, rfl, ?_⟩
                   rw [Dseal, ← pcs]
                   repeat (first | rw [if_pos (by omega)] | rw [if_neg (by omega)])
                   have i2 := i1.sset k.toNat (by omega) (s 390 (200 + 301 * k).toNat - 2).toNat (by rw [e390, eo]; omega) (zc / 256) ⟨by omega, by omega⟩
                   have i3 := i2.sset k.toNat (by omega) (s 390 (200 + 301 * k).toNat - 2 + 1).toNat (by rw [hs_k (by omega), e390, eo]; omega) (zc % 256) ⟨by omega, by omega⟩
                   rw [show 201 + 301 * k.toNat + (s 390 (200 + 301 * k).toNat - 2).toNat = (199 + 301 * k + s 390 (200 + 301 * k).toNat).toNat by omega, show 201 + 301 * k.toNat + (s 390 (200 + 301 * k).toNat - 2 + 1).toNat = (200 + 301 * k + s 390 (200 + 301 * k).toNat).toNat by omega, ← p2, ← p3] at i3
                   exact PK.acc i3 (by decide) (fun x hx => by rw [p3, hs_O (by omega), p2, hs_O (by omega), f1 x (by omega)]))
            · show jT _ _ 140 _ _ _ _
              refine tl_iconst rfl ?_
              refine tl_goto (tgt := 145) rfl rfl ?_
              refine tl_v1i (c9 := 11) (k_accept l _ _) rfl rfl rfl rfl rfl (Nat.le_of_ble_eq_true rfl) (fun za ha pa => ?_)
              obtain ⟨rfl, rfl⟩ := pa
              refine tl_iret rfl ?_
              -- leaf 3 at 148
              first
                | (exfalso; omega)
                | (refine ⟨_, rfl, ?_⟩
                   rw [Dseal, ← pcs]
                   repeat (first | rw [if_pos (by omega)] | rw [if_neg (by omega)])
                   have i2 := i1.sset k.toNat (by omega) (s 390 (200 + 301 * k).toNat - 2).toNat (by rw [e390, eo]; omega) (zc / 256) ⟨by omega, by omega⟩
                   have i3 := i2.sset k.toNat (by omega) (s 390 (200 + 301 * k).toNat - 2 + 1).toNat (by rw [hs_k (by omega), e390, eo]; omega) (zc % 256) ⟨by omega, by omega⟩
                   rw [show 201 + 301 * k.toNat + (s 390 (200 + 301 * k).toNat - 2).toNat = (199 + 301 * k + s 390 (200 + 301 * k).toNat).toNat by omega, show 201 + 301 * k.toNat + (s 390 (200 + 301 * k).toNat - 2 + 1).toNat = (200 + 301 * k + s 390 (200 + 301 * k).toNat).toNat by omega, ← p2, ← p3] at i3
                   exact PK.acc i3 (by decide) (fun x hx => by rw [p3, hs_O (by omega), p2, hs_O (by omega), f1 x (by omega)]))
          · show jT _ _ 103 _ _ _ _
            show jT _ _ 103 _ _ _ _
            refine tl_iconst rfl ?_
            refine tl_goto (tgt := 108) rfl rfl ?_
            refine tl_istore rfl (Nat.le_of_ble_eq_true rfl) rfl ?_
            refine tl_aload_n rfl rfl ?_
            refine tl_iload_n rfl rfl ?_
            refine tl_iload rfl rfl ?_
            refine tl_sipush rfl rfl ?_
            show jT _ _ 117 _ _ _ _
            refine tl_idiv rfl (by omega) (by omega) (by omega) (by omega) ?_
            refine tl_v2v (c9 := 8) (c_Row_change l hS _ (s 390 (200 + 301 * k).toNat - 2) (zc / 256) (by omega) (by omega) ⟨by omega, by omega⟩) rfl rfl rfl hS.1 rfl (Nat.le_of_ble_eq_true rfl) (fun h2 p2 => ?_)
            rw [if_pos (by omega)] at p2
            have n5 : h2 (9 + 2 * k.toNat) 1 = s 390 (200 + 301 * k).toNat := by rw [p2, hs_o (by omega), n3]
            refine tl_aload_n rfl rfl ?_
            refine tl_iload_n rfl rfl ?_
            refine tl_iconst rfl ?_
            refine tl_iadd rfl ?_
            refine tl_iload rfl rfl ?_
            show jT _ _ 127 _ _ _ _
            refine tl_sipush rfl rfl ?_
            refine tl_irem rfl (by omega) (by omega) (by omega) (by omega) ?_
            refine tl_v2v (c9 := 8) (c_Row_change l hS _ (s 390 (200 + 301 * k).toNat - 2 + 1) (zc % 256) (by omega) (by omega) ⟨by omega, by omega⟩) rfl rfl rfl hS.1 rfl (Nat.le_of_ble_eq_true rfl) (fun h3 p3 => ?_)
            rw [if_pos (by omega)] at p3
            refine tl_aload_n rfl rfl ?_
            refine tl_iload rfl rfl ?_
            refine tl_if_eq (tgt := 144) rfl rfl ⟨by omega, by omega⟩ (fun c8 => ?_) (fun c8 => ?_)
            · skip
              refine tl_iconst rfl ?_
              show jT _ _ 145 _ _ _ _
              refine tl_v1i (c9 := 11) (k_accept l _ _) rfl rfl rfl rfl rfl (Nat.le_of_ble_eq_true rfl) (fun za ha pa => ?_)
              obtain ⟨rfl, rfl⟩ := pa
              refine tl_iret rfl ?_
              -- leaf 4 at 148
              first
                | (exfalso; omega)
                | (refine ⟨_, rfl, ?_⟩
                   rw [Dseal, ← pcs]
                   repeat (first | rw [if_pos (by omega)] | rw [if_neg (by omega)])
                   have i2 := i1.sset k.toNat (by omega) (s 390 (200 + 301 * k).toNat - 2).toNat (by rw [e390, eo]; omega) (zc / 256) ⟨by omega, by omega⟩
                   have i3 := i2.sset k.toNat (by omega) (s 390 (200 + 301 * k).toNat - 2 + 1).toNat (by rw [hs_k (by omega), e390, eo]; omega) (zc % 256) ⟨by omega, by omega⟩
                   rw [show 201 + 301 * k.toNat + (s 390 (200 + 301 * k).toNat - 2).toNat = (199 + 301 * k + s 390 (200 + 301 * k).toNat).toNat by omega, show 201 + 301 * k.toNat + (s 390 (200 + 301 * k).toNat - 2 + 1).toNat = (200 + 301 * k + s 390 (200 + 301 * k).toNat).toNat by omega, ← p2, ← p3] at i3
                   exact PK.acc i3 (by decide) (fun x hx => by rw [p3, hs_O (by omega), p2, hs_O (by omega), f1 x (by omega)]))
            · show jT _ _ 140 _ _ _ _
              refine tl_iconst rfl ?_
              refine tl_goto (tgt := 145) rfl rfl ?_
              refine tl_v1i (c9 := 11) (k_accept l _ _) rfl rfl rfl rfl rfl (Nat.le_of_ble_eq_true rfl) (fun za ha pa => ?_)
              obtain ⟨rfl, rfl⟩ := pa
              refine tl_iret rfl ?_
              -- leaf 5 at 148
              first
                | (exfalso; omega)
                | (refine ⟨_, rfl, ?_⟩
                   rw [Dseal, ← pcs]
                   repeat (first | rw [if_pos (by omega)] | rw [if_neg (by omega)])
                   have i2 := i1.sset k.toNat (by omega) (s 390 (200 + 301 * k).toNat - 2).toNat (by rw [e390, eo]; omega) (zc / 256) ⟨by omega, by omega⟩
                   have i3 := i2.sset k.toNat (by omega) (s 390 (200 + 301 * k).toNat - 2 + 1).toNat (by rw [hs_k (by omega), e390, eo]; omega) (zc % 256) ⟨by omega, by omega⟩
                   rw [show 201 + 301 * k.toNat + (s 390 (200 + 301 * k).toNat - 2).toNat = (199 + 301 * k + s 390 (200 + 301 * k).toNat).toNat by omega, show 201 + 301 * k.toNat + (s 390 (200 + 301 * k).toNat - 2 + 1).toNat = (200 + 301 * k + s 390 (200 + 301 * k).toNat).toNat by omega, ← p2, ← p3] at i3
                   exact PK.acc i3 (by decide) (fun x hx => by rw [p3, hs_O (by omega), p2, hs_O (by omega), f1 x (by omega)]))
      · show jT _ _ 46 _ _ _ _
        refine tl_aload_n rfl rfl ?_
        show jT _ _ 47 _ _ _ _
        refine tl_bipush rfl rfl ?_
        refine tl_v1i (c9 := 11) (k_refuse l _ _ (by omega) (by omega)) rfl rfl rfl rfl rfl (Nat.le_of_ble_eq_true rfl) (fun zr hr pr => ?_)
        obtain ⟨rfl, rfl⟩ := pr
        refine tl_iret rfl ?_
        -- leaf 6 at 52
        refine ⟨_, rfl, ?_⟩
        rw [Dseal]
        repeat (first | rw [if_pos (by omega)] | rw [if_neg (by omega)])
        exact PK.ref hI (by omega) (by omega)
    · show jT _ _ 21 _ _ _ _
      refine tl_aload_n rfl rfl ?_
      refine tl_bipush rfl rfl ?_
      refine tl_v1i (c9 := 11) (k_refuse l _ _ (by omega) (by omega)) rfl rfl rfl rfl rfl (Nat.le_of_ble_eq_true rfl) (fun zr hr pr => ?_)
      obtain ⟨rfl, rfl⟩ := pr
      refine tl_iret rfl ?_
      -- leaf 7 at 27
      refine ⟨_, rfl, ?_⟩
      rw [Dseal]
      repeat (first | rw [if_pos (by omega)] | rw [if_neg (by omega)])
      exact PK.ref hI (by omega) (by omega)
  · show jT _ _ 7 _ _ _ _
    show jT _ _ 7 _ _ _ _
    refine tl_aload_n rfl rfl ?_
    refine tl_iconst rfl ?_
    refine tl_v1i (c9 := 11) (k_refuse l _ _ (by omega) (by omega)) rfl rfl rfl rfl rfl (Nat.le_of_ble_eq_true rfl) (fun zr hr pr => ?_)
    obtain ⟨rfl, rfl⟩ := pr
    refine tl_iret rfl ?_
    -- leaf 8 at 12
    refine ⟨_, rfl, ?_⟩
    rw [Dseal]
    repeat (first | rw [if_pos (by omega)] | rw [if_neg (by omega)])
    exact PK.ref hI (by omega) (by omega)
