/-! seal -/
set_option maxRecDepth 20000 in
set_option maxHeartbeats 1000000 in
theorem c_slotCheck_lp (l : Launch) (h : jH) (b u : Nat) (hb : b + 1 + u ≤ 1362) (hy : ∀ i, i < u → byt (h 390 (b + 1 + i))) (P : Option Value → jH → Prop) (hP : P (some (.int (jI (ckF (fun i => h 390 (b + 1 + i)) u)))) h) : ∀ (m k : Nat), u - k < m → k ≤ u → jT l 314 5 [some (.ref 388), some (.int (jI (b : Int))), some (.int (jI (u : Int))), some (.int (jI (ckF (fun i => h 390 (b + 1 + i)) k))), some (.int (jI (k : Int)))] [] h P := by
  intro m
  induction m with
  | zero => intro k hk; omega
  | succ m ih =>
    intro k hk hkK
    have cb := ckF_b (fun i => h 390 (b + 1 + i)) k
    refine tl_iload rfl rfl ?_
    refine tl_iload_n rfl rfl ?_
    refine tl_icmp_ge (tgt := 37) rfl rfl ⟨by omega, by omega⟩ ⟨by omega, by omega⟩ (fun c1 => ?_) (fun c1 => ?_)
    · skip
      refine tl_iload_n rfl rfl ?_
      refine tl_iret rfl ?_
      -- leaf 0 at 38
      have e : k = u := by omega
      subst e
      exact hP
    · show jT _ _ 11 _ _ _ _
      refine tl_iconst rfl ?_
      show jT _ _ 12 _ _ _ _
      refine tl_iload_n rfl rfl ?_
      refine tl_imul rfl ?_
      refine tl_aload_n rfl rfl ?_
      refine tl_getr (c := 12) (k9 := 3) (b := 390) rfl rfl rfl rfl ?_
      refine tl_iload_n rfl rfl ?_
      refine tl_iconst rfl ?_
      refine tl_iadd rfl ?_
      show jT _ _ 21 _ _ _ _
      refine tl_iload rfl rfl ?_
      refine tl_iadd rfl ?_
      refine tl_iald (n := 1362) rfl rfl rfl (by omega) (by omega) ?_
      rw [show ((b : Int) + 1 + (k : Int)).toNat = b + 1 + k by omega]
      have hy1 := (hy k (by omega)).1
      have hy2 := (hy k (by omega)).2
      refine tl_iadd rfl ?_
      refine tl_sipush rfl rfl ?_
      refine tl_irem rfl (by omega) (by omega) (by omega) (by omega) ?_
      refine tl_istore_n rfl (Nat.le_of_ble_eq_true rfl) rfl ?_
      show jT _ _ 31 _ _ _ _
      refine tl_iinc rfl rfl rfl ?_
      refine tl_goto (tgt := 5) rfl rfl ?_
      show jT _ _ 5 _ _ _ _
      -- leaf 1 at 5
      exact ih (k + 1) (by omega) (by omega)
set_option maxRecDepth 20000 in
set_option maxHeartbeats 1000000 in
theorem c_slotCheck (l : Launch) (h : jH) (b u : Nat) (hb : b + 1 + u ≤ 1362) (hy : ∀ i, i < u → byt (h 390 (b + 1 + i))) : cI l 314 [.ref 388, .int (jI (b : Int)), .int (jI (u : Int))] h (fun z h' => h' = h ∧ z = ckF (fun i => h 390 (b + 1 + i)) u) := by
  refine cI.of rfl rfl ?_
  refine tl_iconst rfl ?_
  refine tl_istore_n rfl (Nat.le_of_ble_eq_true rfl) rfl ?_
  refine tl_iconst rfl ?_
  refine tl_istore rfl (Nat.le_of_ble_eq_true rfl) rfl ?_
  show jT _ _ 5 _ _ _ _
  -- leaf 0 at 5
  exact c_slotCheck_lp l h b u hb hy _ ⟨_, rfl, rfl, rfl⟩ _ 0 (Nat.lt_succ_self _) (Nat.zero_le _)
def sck (R : Nat → Int) (k : Int) : Int := ckF (fun i => R ((200 + 301 * k).toNat + 1 + i)) (R (200 + 301 * k).toNat - 2).toNat
def Dseal (s : jH) (k : Int) : Int × jH := if k < 0 ∨ 2 < k then dT s (-1) else if s 390 (200 + 301 * k).toNat = -1 then dT s (-2) else if s 390 (200 + 301 * k).toNat < 2 then dT s (-4) else dT (hs (hs (Trem s 15) 390 (199 + 301 * k + s 390 (200 + 301 * k).toNat).toNat (sck (s 390) k / 256)) 390 (200 + 301 * k + s 390 (200 + 301 * k).toNat).toNat (sck (s 390) k % 256)) (if s 390 (199 + 301 * k + s 390 (200 + 301 * k).toNat).toNat = sck (s 390) k / 256 ∧ s 390 (200 + 301 * k + s 390 (200 + 301 * k).toNat).toNat = sck (s 390) k % 256 then 0 else 1)
theorem Ag.seal {s s' : jH} (h : Ag s s') (k : Int) : AgD (Dseal s k) (Dseal s' k) := by
  unfold Dseal
  rw [h 390 (by decide)]
  split
  · exact h.d _
  · split
    · exact h.d _
    · split
      · exact h.d _
      · exact (((h.rem _).s1 rfl).s1 rfl).d _
set_option maxRecDepth 20000 in
set_option maxHeartbeats 1000000 in
theorem r_seal (l : Launch) (g h : jH) (t k : Int) (hI0 : IC g h t) (hk : jr k) : cI l 315 [.ref 388, .int (jI k)] h (PR (Dseal (Tz h) k)) := by
  have k1 := hk.1
  have k2 := hk.2
  refine cI.of rfl rfl ?_
  refine tl_aload_n rfl rfl ?_
  refine tl_iconst rfl ?_
  refine tl_puti (c := 12) (k9 := 0) rfl rfl rfl rfl ?_
  have hI := hI0.z
  change jT _ _ _ _ _ (Tz h) _
  generalize Tz h = m at hI ⊢
  have nu := hI.nund
  refine tl_iload_n rfl rfl ?_
  refine tl_s1i (c_isSlotR l _ k ⟨by omega, by omega⟩) rfl rfl rfl (Nat.le_of_ble_eq_true rfl) (fun z1 h1 p1 => ?_)
  obtain ⟨q1, p1⟩ := p1
  have q1 := q1.symm
  subst q1
  have b1 : z1 = 0 ∨ z1 = 1 := by rw [p1]; split <;> omega
  have hs3 := fun (c1 : 0 ≤ k) (c2 : k ≤ 2) => hI.slot (f := k) c1 c2
  refine tl_if_ne (tgt := 18) rfl rfl ⟨by omega, by omega⟩ (fun c1 => ?_) (fun c1 => ?_)
  · skip
    show jT _ _ 18 _ _ _ _
    refine tl_aload_n rfl rfl ?_
    refine tl_iload_n rfl rfl ?_
    obtain ⟨a2, a4⟩ := hs3 (by omega) (by omega)
    refine tl_v1i (c9 := 12) (c_has l _ k (by omega) (by omega) ⟨by omega, by omega⟩) rfl rfl rfl rfl rfl (Nat.le_of_ble_eq_true rfl) (fun zh hh9 ph => ?_)
    obtain ⟨qh, ph⟩ := ph
    have qh := qh.symm
    subst qh
    have bh : zh = 0 ∨ zh = 1 := by rw [ph]; split <;> omega
    refine tl_if_ne (tgt := 33) rfl rfl ⟨by omega, by omega⟩ (fun c2 => ?_) (fun c2 => ?_)
    · skip
      refine tl_iload_n rfl rfl ?_
      refine tl_s1i (c_slotAt l _ k) rfl rfl rfl (Nat.le_of_ble_eq_true rfl) (fun z6 h6 p6 => ?_)
      obtain ⟨q6, rfl⟩ := p6
      have q6 := q6.symm
      subst q6
      refine tl_istore_n rfl (Nat.le_of_ble_eq_true rfl) rfl ?_
      show jT _ _ 38 _ _ _ _
      refine tl_aload_n rfl rfl ?_
      refine tl_getr (c := 12) (k9 := 3) (b := 390) rfl rfl rfl rfl ?_
      refine tl_iload_n rfl rfl ?_
      refine tl_iald (n := 1362) rfl rfl rfl (by omega) (by omega) ?_
      refine tl_istore_n rfl (Nat.le_of_ble_eq_true rfl) rfl ?_
      refine tl_iload_n rfl rfl ?_
      refine tl_iconst rfl ?_
      show jT _ _ 47 _ _ _ _
      refine tl_icmp_ge (tgt := 57) rfl rfl ⟨by omega, by omega⟩ ⟨by omega, by omega⟩ (fun c3 => ?_) (fun c3 => ?_)
      · skip
        refine tl_aload_n rfl rfl ?_
        refine tl_bipush rfl rfl ?_
        refine tl_v1v (c9 := 12) (r_remember l _ 15 (by omega) (by omega)) rfl rfl rfl rfl rfl (Nat.le_of_ble_eq_true rfl) (fun hr pr => ?_)
        subst pr
        have e8 : Trem m 15 388 8 = m 388 8 := Trem_n (by decide)
        have e390 : Trem m 15 390 = m 390 := Trem_o (by decide) (by decide) (by decide)
        have e393 : Trem m 15 393 = m 393 := Trem_o (by decide) (by decide) (by decide)
        generalize gM : Trem m 15 = M at e8 e390 e393 ⊢
        refine tl_aload_n rfl rfl ?_
        refine tl_iload_n rfl rfl ?_
        refine tl_iload_n rfl rfl ?_
        show jT _ _ 66 _ _ _ _
        refine tl_iconst rfl ?_
        refine tl_isub rfl ?_
        rw [show jI (200 + 301 * k) = jI (((200 + 301 * k).toNat : Nat) : Int) by congr 1; omega, show jI (m 390 (200 + 301 * k).toNat - 2) = jI (((m 390 (200 + 301 * k).toNat - 2).toNat : Nat) : Int) by congr 1; omega]
        refine tl_v2i (c9 := 12) (c_slotCheck l _ (200 + 301 * k).toNat (m 390 (200 + 301 * k).toNat - 2).toNat (by omega) (fun i hi => by rw [e390]; have := a4 i (by omega); rw [show (200 + 301 * k).toNat + 1 + i = (201 + 301 * k).toNat + i by omega]; exact this)) rfl rfl rfl rfl rfl (Nat.le_of_ble_eq_true rfl) (fun zc hc pc9 => ?_)
        obtain ⟨qc, pc9⟩ := pc9
        have qc := qc.symm
        subst qc
        rw [e390] at pc9
        have pcs : zc = sck (m 390) k := pc9
        have cb := ckF_b (fun i => m 390 ((200 + 301 * k).toNat + 1 + i)) (m 390 (200 + 301 * k).toNat - 2).toNat
        rw [← pc9] at cb
        have y1 := a4 (m 390 (200 + 301 * k).toNat - 2).toNat (by omega)
        rw [show (201 + 301 * k).toNat + (m 390 (200 + 301 * k).toNat - 2).toNat = (199 + 301 * k + m 390 (200 + 301 * k).toNat).toNat by omega] at y1
        obtain ⟨y1, y2⟩ := y1
        have y3 := a4 (m 390 (200 + 301 * k).toNat - 1).toNat (by omega)
        rw [show (201 + 301 * k).toNat + (m 390 (200 + 301 * k).toNat - 1).toNat = (200 + 301 * k + m 390 (200 + 301 * k).toNat).toNat by omega] at y3
        obtain ⟨y3, y4⟩ := y3
        rw [show jI (((200 + 301 * k).toNat : Nat) : Int) = jI (200 + 301 * k) by congr 1; omega]
        refine tl_istore rfl (Nat.le_of_ble_eq_true rfl) rfl ?_
        refine tl_aload_n rfl rfl ?_
        refine tl_getr (c := 12) (k9 := 3) (b := 390) rfl rfl rfl rfl ?_
        refine tl_iload_n rfl rfl ?_
        show jT _ _ 78 _ _ _ _
        refine tl_iload_n rfl rfl ?_
        refine tl_iadd rfl ?_
        refine tl_iconst rfl ?_
        refine tl_isub rfl ?_
        refine tl_iald (n := 1362) rfl rfl rfl (by omega) (by omega) ?_
        rw [e390]
        rw [show ((200 : Int) + 301 * k + m 390 (200 + 301 * k).toNat - 1).toNat = (199 + 301 * k + m 390 (200 + 301 * k).toNat).toNat by omega]
        refine tl_iload rfl rfl ?_
        refine tl_sipush rfl rfl ?_
        show jT _ _ 88 _ _ _ _
        refine tl_idiv rfl (by omega) (by omega) (by omega) (by omega) ?_
        refine tl_icmp_ne (tgt := 113) rfl rfl ⟨by omega, by omega⟩ ⟨by omega, by omega⟩ (fun c4 => ?_) (fun c4 => ?_)
        · skip
          refine tl_iconst rfl ?_
          refine tl_istore rfl (Nat.le_of_ble_eq_true rfl) rfl ?_
          refine tl_aload_n rfl rfl ?_
          refine tl_getr (c := 12) (k9 := 3) (b := 390) rfl rfl rfl rfl ?_
          refine tl_iload_n rfl rfl ?_
          show jT _ _ 121 _ _ _ _
          refine tl_iload_n rfl rfl ?_
          refine tl_iadd rfl ?_
          refine tl_iconst rfl ?_
          refine tl_isub rfl ?_
          refine tl_iload rfl rfl ?_
          refine tl_sipush rfl rfl ?_
          refine tl_idiv rfl (by omega) (by omega) (by omega) (by omega) ?_
          show jT _ _ 131 _ _ _ _
          refine tl_iast (n := 1362) rfl rfl rfl (by omega) (by omega) ?_
          rw [show ((200 : Int) + 301 * k + m 390 (200 + 301 * k).toNat - 1).toNat = (199 + 301 * k + m 390 (200 + 301 * k).toNat).toNat by omega]
          refine tl_aload_n rfl rfl ?_
          refine tl_getr (c := 12) (k9 := 3) (b := 390) rfl rfl rfl rfl ?_
          refine tl_iload_n rfl rfl ?_
          refine tl_iload_n rfl rfl ?_
          refine tl_iadd rfl ?_
          refine tl_iload rfl rfl ?_
          show jT _ _ 141 _ _ _ _
          refine tl_sipush rfl rfl ?_
          refine tl_irem rfl (by omega) (by omega) (by omega) (by omega) ?_
          refine tl_iast (n := 1362) rfl rfl rfl (by omega) (by omega) ?_
          refine tl_aload_n rfl rfl ?_
          refine tl_iload rfl rfl ?_
          refine tl_v1i (c9 := 12) (c_tell l _ _ ⟨by omega, by omega⟩ (by omega)) rfl rfl rfl rfl rfl (Nat.le_of_ble_eq_true rfl) (fun zt ht pt => ?_)
          obtain ⟨rfl, pt⟩ := pt
          refine tl_iret rfl ?_
          -- leaf 0 at 152
          refine ⟨_, rfl, ?_⟩
          rw [Dseal, ← pcs]
          repeat (first | rw [if_pos (by omega)] | rw [if_neg (by omega)])
          rw [gM]
          exact ⟨rfl, pt⟩
        · show jT _ _ 92 _ _ _ _
          show jT _ _ 92 _ _ _ _
          refine tl_aload_n rfl rfl ?_
          refine tl_getr (c := 12) (k9 := 3) (b := 390) rfl rfl rfl rfl ?_
          refine tl_iload_n rfl rfl ?_
          refine tl_iload_n rfl rfl ?_
          refine tl_iadd rfl ?_
          refine tl_iald (n := 1362) rfl rfl rfl (by omega) (by omega) ?_
          rw [e390]
          refine tl_iload rfl rfl ?_
          show jT _ _ 102 _ _ _ _
          refine tl_sipush rfl rfl ?_
          refine tl_irem rfl (by omega) (by omega) (by omega) (by omega) ?_
          refine tl_icmp_ne (tgt := 113) rfl rfl ⟨by omega, by omega⟩ ⟨by omega, by omega⟩ (fun c5 => ?_) (fun c5 => ?_)
          · skip
            refine tl_iconst rfl ?_
            refine tl_istore rfl (Nat.le_of_ble_eq_true rfl) rfl ?_
            refine tl_aload_n rfl rfl ?_
            refine tl_getr (c := 12) (k9 := 3) (b := 390) rfl rfl rfl rfl ?_
            show jT _ _ 120 _ _ _ _
            refine tl_iload_n rfl rfl ?_
            refine tl_iload_n rfl rfl ?_
            refine tl_iadd rfl ?_
            refine tl_iconst rfl ?_
            refine tl_isub rfl ?_
            refine tl_iload rfl rfl ?_
            refine tl_sipush rfl rfl ?_
            show jT _ _ 130 _ _ _ _
            refine tl_idiv rfl (by omega) (by omega) (by omega) (by omega) ?_
            refine tl_iast (n := 1362) rfl rfl rfl (by omega) (by omega) ?_
            rw [show ((200 : Int) + 301 * k + m 390 (200 + 301 * k).toNat - 1).toNat = (199 + 301 * k + m 390 (200 + 301 * k).toNat).toNat by omega]
            refine tl_aload_n rfl rfl ?_
            refine tl_getr (c := 12) (k9 := 3) (b := 390) rfl rfl rfl rfl ?_
            refine tl_iload_n rfl rfl ?_
            refine tl_iload_n rfl rfl ?_
            refine tl_iadd rfl ?_
            show jT _ _ 139 _ _ _ _
            refine tl_iload rfl rfl ?_
            refine tl_sipush rfl rfl ?_
            refine tl_irem rfl (by omega) (by omega) (by omega) (by omega) ?_
            refine tl_iast (n := 1362) rfl rfl rfl (by omega) (by omega) ?_
            refine tl_aload_n rfl rfl ?_
            refine tl_iload rfl rfl ?_
            refine tl_v1i (c9 := 12) (c_tell l _ _ ⟨by omega, by omega⟩ (by omega)) rfl rfl rfl rfl rfl (Nat.le_of_ble_eq_true rfl) (fun zt ht pt => ?_)
            obtain ⟨rfl, pt⟩ := pt
            show jT _ _ 152 _ _ _ _
            refine tl_iret rfl ?_
            -- leaf 1 at 152
            refine ⟨_, rfl, ?_⟩
            rw [Dseal, ← pcs]
            repeat (first | rw [if_pos (by omega)] | rw [if_neg (by omega)])
            rw [gM]
            exact ⟨rfl, pt⟩
          · show jT _ _ 109 _ _ _ _
            refine tl_iconst rfl ?_
            refine tl_goto (tgt := 114) rfl rfl ?_
            refine tl_istore rfl (Nat.le_of_ble_eq_true rfl) rfl ?_
            refine tl_aload_n rfl rfl ?_
            refine tl_getr (c := 12) (k9 := 3) (b := 390) rfl rfl rfl rfl ?_
            refine tl_iload_n rfl rfl ?_
            show jT _ _ 121 _ _ _ _
            refine tl_iload_n rfl rfl ?_
            refine tl_iadd rfl ?_
            refine tl_iconst rfl ?_
            refine tl_isub rfl ?_
            refine tl_iload rfl rfl ?_
            refine tl_sipush rfl rfl ?_
            refine tl_idiv rfl (by omega) (by omega) (by omega) (by omega) ?_
            show jT _ _ 131 _ _ _ _
            refine tl_iast (n := 1362) rfl rfl rfl (by omega) (by omega) ?_
            rw [show ((200 : Int) + 301 * k + m 390 (200 + 301 * k).toNat - 1).toNat = (199 + 301 * k + m 390 (200 + 301 * k).toNat).toNat by omega]
            refine tl_aload_n rfl rfl ?_
            refine tl_getr (c := 12) (k9 := 3) (b := 390) rfl rfl rfl rfl ?_
            refine tl_iload_n rfl rfl ?_
            refine tl_iload_n rfl rfl ?_
            refine tl_iadd rfl ?_
            refine tl_iload rfl rfl ?_
            show jT _ _ 141 _ _ _ _
            refine tl_sipush rfl rfl ?_
            refine tl_irem rfl (by omega) (by omega) (by omega) (by omega) ?_
            refine tl_iast (n := 1362) rfl rfl rfl (by omega) (by omega) ?_
            refine tl_aload_n rfl rfl ?_
            refine tl_iload rfl rfl ?_
            refine tl_v1i (c9 := 12) (c_tell l _ _ ⟨by omega, by omega⟩ (by omega)) rfl rfl rfl rfl rfl (Nat.le_of_ble_eq_true rfl) (fun zt ht pt => ?_)
            obtain ⟨rfl, pt⟩ := pt
            refine tl_iret rfl ?_
            -- leaf 2 at 152
            refine ⟨_, rfl, ?_⟩
            rw [Dseal, ← pcs]
            repeat (first | rw [if_pos (by omega)] | rw [if_neg (by omega)])
            rw [gM]
            exact ⟨rfl, pt⟩
      · show jT _ _ 50 _ _ _ _
        show jT _ _ 50 _ _ _ _
        refine tl_aload_n rfl rfl ?_
        refine tl_bipush rfl rfl ?_
        refine tl_v1i (c9 := 12) (c_tell l _ _ ⟨by omega, by omega⟩ (by omega)) rfl rfl rfl rfl rfl (Nat.le_of_ble_eq_true rfl) (fun zt ht pt => ?_)
        obtain ⟨rfl, pt⟩ := pt
        refine tl_iret rfl ?_
        -- leaf 3 at 56
        refine ⟨_, rfl, ?_⟩
        rw [Dseal]
        repeat (first | rw [if_pos (by omega)] | rw [if_neg (by omega)])
        exact ⟨rfl, pt⟩
    · show jT _ _ 26 _ _ _ _
      refine tl_aload_n rfl rfl ?_
      refine tl_bipush rfl rfl ?_
      refine tl_v1i (c9 := 12) (c_tell l _ _ ⟨by omega, by omega⟩ (by omega)) rfl rfl rfl rfl rfl (Nat.le_of_ble_eq_true rfl) (fun zt ht pt => ?_)
      obtain ⟨rfl, pt⟩ := pt
      show jT _ _ 32 _ _ _ _
      refine tl_iret rfl ?_
      -- leaf 4 at 32
      refine ⟨_, rfl, ?_⟩
      rw [Dseal]
      repeat (first | rw [if_pos (by omega)] | rw [if_neg (by omega)])
      exact ⟨rfl, pt⟩
  · show jT _ _ 12 _ _ _ _
    refine tl_aload_n rfl rfl ?_
    refine tl_iconst rfl ?_
    refine tl_v1i (c9 := 12) (c_tell l _ _ ⟨by omega, by omega⟩ (by omega)) rfl rfl rfl rfl rfl (Nat.le_of_ble_eq_true rfl) (fun zt ht pt => ?_)
    obtain ⟨rfl, pt⟩ := pt
    refine tl_iret rfl ?_
    -- leaf 5 at 17
    refine ⟨_, rfl, ?_⟩
    rw [Dseal]
    repeat (first | rw [if_pos (by omega)] | rw [if_neg (by omega)])
    exact ⟨rfl, pt⟩
