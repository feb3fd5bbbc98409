/-! join, of the reference -/
theorem jI_nrm (z : Int) : ∃ y, jr y ∧ jI z = jI y := ⟨(jI z).toInt, ⟨by have := Int32.le_toInt (jI z); omega, by have := Int32.toInt_lt (jI z); omega⟩, (Int32.ofInt_toInt (jI z)).symm⟩
theorem RFlatI {a b : jH} {f : Int} (e : ∀ x, x < 388 ∨ (389 ≤ x ∧ x ≤ 393) ∨ 434 ≤ x → b x = a x) (g : ∀ q, q = 1 ∨ q = 6 ∨ q = 8 ∨ q = 48 ∨ q = 49 ∨ q = 59 ∨ q = 74 → b 388 q = a 388 q) (e5 : b 388 45 = f) : RF (lat a f) b := by
  refine ⟨fun x hx => ?_, fun q hq => ?_⟩
  · rw [e x hx]; exact (hs_O (by omega)).symm
  · by_cases c : q = 45
    · subst c; rw [e5]; exact hs_s.symm
    · rw [g q (by omega)]; exact (hs_k c).symm
set_option maxRecDepth 20000 in
set_option maxHeartbeats 1000000 in
theorem r_jc_lp (l : Launch) (h : jH) (n : Nat) (n64 : n ≤ 64) (k5 : h 388 45 = 0) (ka kb kc os oc nc : Int) (P : Option Value → jH → Prop) (hx : ∀ mem, ((∀ q, q < n → mem 414 q = h 403 q ∧ mem 415 q = h 404 q) ∧ ∀ x, x ≠ 414 → x ≠ 415 → mem x = h x) → jT l 296 140 [some (.ref 388), some (.int (jI (ka))), some (.int (jI (kb))), some (.int (jI (kc))), some (.int (jI (os))), some (.int (jI (oc))), some (.int (jI ((n : Int)))), some (.int (jI (nc))), some (.int (jI ((n : Int))))] [] mem P) : ∀ (m : Nat) (k : Nat) (mem : jH), n - k < m → (k ≤ n ∧ (∀ q, q < k → mem 414 q = h 403 q ∧ mem 415 q = h 404 q) ∧ ∀ x, x ≠ 414 → x ≠ 415 → mem x = h x) → jT l 296 92 [some (.ref 388), some (.int (jI (ka))), some (.int (jI (kb))), some (.int (jI (kc))), some (.int (jI (os))), some (.int (jI (oc))), some (.int (jI ((n : Int)))), some (.int (jI (nc))), some (.int (jI ((k : Int))))] [] mem P := by
  intro m
  induction m with
  | zero => intro k mem hk; omega
  | succ m ih =>
    intro k mem hk hi
    obtain ⟨i0, i1, fr⟩ := hi
    refine tl_iload rfl rfl ?_
    refine tl_iload rfl rfl ?_
    refine tl_icmp_ge (tgt := 140) rfl rfl ⟨by omega, by omega⟩ ⟨by omega, by omega⟩ (fun c1 => ?_) (fun c1 => ?_)
    · skip
      show jT _ _ 140 _ _ _ _
      -- leaf 0 at 140
      have e : k = n := by omega
      subst e
      exact hx _ ⟨i1, fr⟩
    · show jT _ _ 99 _ _ _ _
      refine tl_aload_n rfl rfl ?_
      refine tl_geti (c := 12) (k9 := 45) rfl rfl rfl ?_
      rw [fr 388 (by decide) (by decide), k5]
      refine tl_if_ne (tgt := 140) rfl rfl ⟨by omega, by omega⟩ (fun c2 => ?_) (fun c2 => ?_)
      · skip
        exfalso; omega
      · show jT _ _ 106 _ _ _ _
        show jT _ _ 106 _ _ _ _
        refine tl_aload_n rfl rfl ?_
        refine tl_getr (c := 12) (k9 := 46) (b := 414) rfl rfl rfl rfl ?_
        refine tl_iload rfl rfl ?_
        refine tl_aload_n rfl rfl ?_
        refine tl_getr (c := 12) (k9 := 23) (b := 403) rfl rfl rfl rfl ?_
        refine tl_iload rfl rfl ?_
        refine tl_iald (n := 64) rfl rfl rfl (by omega) (by omega) ?_
        rw [Int.toNat_natCast]
        show jT _ _ 119 _ _ _ _
        refine tl_iast (n := 64) rfl rfl rfl (by omega) (by omega) ?_
        rw [Int.toNat_natCast]
        refine tl_aload_n rfl rfl ?_
        refine tl_getr (c := 12) (k9 := 47) (b := 415) rfl rfl rfl rfl ?_
        refine tl_iload rfl rfl ?_
        refine tl_aload_n rfl rfl ?_
        refine tl_getr (c := 12) (k9 := 24) (b := 404) rfl rfl rfl rfl ?_
        refine tl_iload rfl rfl ?_
        show jT _ _ 132 _ _ _ _
        refine tl_iald (n := 64) rfl rfl rfl (by omega) (by omega) ?_
        rw [Int.toNat_natCast]
        refine tl_iast (n := 64) rfl rfl rfl (by omega) (by omega) ?_
        rw [Int.toNat_natCast]
        refine tl_iinc rfl rfl rfl ?_
        refine tl_goto (tgt := 92) rfl rfl ?_
        show jT _ _ 92 _ _ _ _
        -- leaf 1 at 92
        refine jT.loc ?_ (ih (k + 1) _ (by omega) ⟨by omega, fun q hq => ?_, fun x x1 x2 => by rw [hs_O x2, hs_O x1]; exact fr x x1 x2⟩)
        · rw [show ((k + 1 : Nat) : Int) = (k : Int) + 1 by omega]; rfl
        · by_cases c : q = k
          · subst c
            refine ⟨?_, ?_⟩
            · rw [hs_o (by decide), hs_s, fr 403 (by decide) (by decide)]
            · rw [hs_s, hs_o (by decide), fr 404 (by decide) (by decide)]
          · rw [hs_k2 c, hs_k2 c, hs_k2 c, hs_k2 c]; exact i1 q (by omega)
set_option maxRecDepth 20000 in
set_option maxHeartbeats 1000000 in
theorem r_jf_lp (l : Launch) (h ga gb : jH) (na nb : Nat) (hb : OGR h gb nb) (ha : ∀ q, q < na → h 414 q = ga 0 q ∧ h 415 q = ga 1 q) (va : OGv ga na) (vb : OGv gb nb) (hl : ∀ q, q < nb → gb 0 q = -1 ∨ (0 ≤ gb 0 q ∧ gb 0 q < (na : Int))) (ka kb kc os oc n9 nc : Int) (P : Option Value → jH → Prop) (hx : ∀ mem, (OGR mem (FOL ga gb) nb ∧ ∀ x, x ≠ 403 → x ≠ 404 → mem x = h x) → jT l 296 282 [some (.ref 388), some (.int (jI (ka))), some (.int (jI (kb))), some (.int (jI (kc))), some (.int (jI (os))), some (.int (jI (oc))), some (.int (jI (n9))), some (.int (jI (nc))), some (.int (jI ((nb : Int))))] [] mem P) : ∀ (m : Nat) (k : Nat) (mem : jH), nb - k < m → (k ≤ nb ∧ (∀ q, q < nb → mem 403 q = (if q < k then FOL ga gb 0 q else gb 0 q) ∧ mem 404 q = (if q < k then FOL ga gb 1 q else gb 1 q)) ∧ ∀ x, x ≠ 403 → x ≠ 404 → mem x = h x) → jT l 296 206 [some (.ref 388), some (.int (jI (ka))), some (.int (jI (kb))), some (.int (jI (kc))), some (.int (jI (os))), some (.int (jI (oc))), some (.int (jI (n9))), some (.int (jI (nc))), some (.int (jI ((k : Int))))] [] mem P := by
  have n1 := vb.1
  have n2 := va.1
  intro m
  induction m with
  | zero => intro k mem hk; omega
  | succ m ih =>
    intro k mem hk hi
    obtain ⟨i0, i1, fr⟩ := hi
    have eb : mem 388 25 = (nb : Int) := by rw [fr 388 (by decide) (by decide)]; exact hb.1
    have kf : nb ≤ k ∨ (k < nb ∧ mem 403 k = gb 0 k ∧ mem 404 k = gb 1 k ∧ (gb 0 k = -1 ∨ (0 ≤ gb 0 k ∧ gb 0 k < (na : Int) ∧ mem 414 (gb 0 k).toNat = ga 0 (gb 0 k).toNat ∧ mem 415 (gb 0 k).toNat = ga 1 (gb 0 k).toNat ∧ 0 ≤ ga 1 (gb 0 k).toNat ∧ ga 1 (gb 0 k).toNat ≤ 255)) ∧ 0 ≤ gb 1 k ∧ gb 1 k ≤ 255) := by
      by_cases c : k < nb
      · right
        have a := i1 k c
        rw [if_neg (by omega), if_neg (by omega)] at a
        refine ⟨c, a.1, a.2, ?_, (vb.2 k c).2⟩
        rcases hl k c with d | d
        · exact Or.inl d
        · right
          have f := ha (gb 0 k).toNat (by omega)
          have g := (va.2 (gb 0 k).toNat (by omega)).2
          rw [fr 414 (by decide) (by decide), fr 415 (by decide) (by decide)]
          exact ⟨d.1, d.2, f.1, f.2, g⟩
      · exact Or.inl (by omega)
    refine tl_iload rfl rfl ?_
    refine tl_aload_n rfl rfl ?_
    refine tl_geti (c := 12) (k9 := 25) rfl rfl rfl ?_
    rw [eb]
    refine tl_icmp_ge (tgt := 282) rfl rfl ⟨by omega, by omega⟩ ⟨by omega, by omega⟩ (fun c1 => ?_) (fun c1 => ?_)
    · skip
      show jT _ _ 282 _ _ _ _
      -- leaf 0 at 282
      have e : k = nb := by omega
      subst e
      refine hx _ ⟨⟨eb, fun q hq => ?_⟩, fr⟩
      have a := i1 q hq
      rw [if_pos hq, if_pos hq] at a
      exact a
    · show jT _ _ 215 _ _ _ _
      refine tl_aload_n rfl rfl ?_
      refine tl_getr (c := 12) (k9 := 23) (b := 403) rfl rfl rfl rfl ?_
      show jT _ _ 219 _ _ _ _
      refine tl_iload rfl rfl ?_
      refine tl_iald (n := 64) rfl rfl rfl (by omega) (by omega) ?_
      rw [Int.toNat_natCast, show mem 403 k = gb 0 k by omega]
      refine tl_iconst rfl ?_
      refine tl_icmp_eq (tgt := 276) rfl rfl ⟨by omega, by omega⟩ ⟨by omega, by omega⟩ (fun c2 => ?_) (fun c2 => ?_)
      · skip
        refine tl_iinc rfl rfl rfl ?_
        refine tl_goto (tgt := 206) rfl rfl ?_
        show jT _ _ 206 _ _ _ _
        -- leaf 1 at 206
        refine jT.loc ?_ (ih (k + 1) mem (by omega) ⟨by omega, fun q hq => ?_, fr⟩)
        · rw [show ((k + 1 : Nat) : Int) = (k : Int) + 1 by omega]; rfl
        · by_cases c : q = k
          · subst c
            have a := i1 q hq
            rw [if_neg (by omega), if_neg (by omega)] at a
            rw [if_pos (by omega), if_pos (by omega), FOL_n (by omega), FOL_n (by omega)]; exact a
          · have a := i1 q hq
            by_cases d : q < k
            · rw [if_pos d, if_pos d] at a; rw [if_pos (by omega), if_pos (by omega)]; exact a
            · rw [if_neg d, if_neg d] at a; rw [if_neg (by omega), if_neg (by omega)]; exact a
      · show jT _ _ 226 _ _ _ _
        refine tl_aload_n rfl rfl ?_
        show jT _ _ 227 _ _ _ _
        refine tl_getr (c := 12) (k9 := 24) (b := 404) rfl rfl rfl rfl ?_
        refine tl_iload rfl rfl ?_
        refine tl_aload_n rfl rfl ?_
        refine tl_getr (c := 12) (k9 := 24) (b := 404) rfl rfl rfl rfl ?_
        refine tl_iload rfl rfl ?_
        refine tl_iald (n := 64) rfl rfl rfl (by omega) (by omega) ?_
        rw [Int.toNat_natCast, show mem 404 k = gb 1 k by omega]
        refine tl_aload_n rfl rfl ?_
        show jT _ _ 240 _ _ _ _
        refine tl_getr (c := 12) (k9 := 47) (b := 415) rfl rfl rfl rfl ?_
        refine tl_aload_n rfl rfl ?_
        refine tl_getr (c := 12) (k9 := 23) (b := 403) rfl rfl rfl rfl ?_
        refine tl_iload rfl rfl ?_
        refine tl_iald (n := 64) rfl rfl rfl (by omega) (by omega) ?_
        rw [Int.toNat_natCast, show mem 403 k = gb 0 k by omega]
        refine tl_iald (n := 64) rfl rfl rfl (by omega) (by omega) ?_
        rw [show mem 415 (gb 0 k).toNat = ga 1 (gb 0 k).toNat by omega]
        refine tl_iadd rfl ?_
        show jT _ _ 252 _ _ _ _
        refine tl_sipush rfl rfl ?_
        refine tl_irem rfl (by omega) (by omega) (by omega) (by omega) ?_
        refine tl_iast (n := 64) rfl rfl rfl (by omega) (by omega) ?_
        rw [Int.toNat_natCast]
        refine tl_aload_n rfl rfl ?_
        refine tl_getr (c := 12) (k9 := 23) (b := 403) rfl rfl rfl rfl ?_
        refine tl_iload rfl rfl ?_
        refine tl_aload_n rfl rfl ?_
        show jT _ _ 264 _ _ _ _
        refine tl_getr (c := 12) (k9 := 46) (b := 414) rfl rfl rfl rfl ?_
        refine tl_aload_n rfl rfl ?_
        refine tl_getr (c := 12) (k9 := 23) (b := 403) rfl rfl rfl rfl ?_
        refine tl_iload rfl rfl ?_
        refine tl_iald (n := 64) rfl rfl rfl (by omega) (by omega) ?_
        rw [Int.toNat_natCast, hs_o (by decide), show mem 403 k = gb 0 k by omega]
        refine tl_iald (n := 64) rfl rfl rfl (by omega) (by omega) ?_
        rw [hs_o (by decide), show mem 414 (gb 0 k).toNat = ga 0 (gb 0 k).toNat by omega]
        refine tl_iast (n := 64) rfl rfl rfl (by omega) (by omega) ?_
        rw [Int.toNat_natCast]
        show jT _ _ 276 _ _ _ _
        refine tl_iinc rfl rfl rfl ?_
        refine tl_goto (tgt := 206) rfl rfl ?_
        show jT _ _ 206 _ _ _ _
        -- leaf 2 at 206
        refine jT.loc ?_ (ih (k + 1) _ (by omega) ⟨by omega, fun q hq => ?_, fun x x1 x2 => by rw [hs_O x1, hs_O x2]; exact fr x x1 x2⟩)
        · rw [show ((k + 1 : Nat) : Int) = (k : Int) + 1 by omega]; rfl
        · by_cases c : q = k
          · subst c
            rw [if_pos (by omega), if_pos (by omega), FOL_0 (by omega), FOL_1 (by omega), hs_s, hs_o (by decide), hs_s, Int.add_comm (gb 1 q)]
            exact ⟨rfl, rfl⟩
          · have a := i1 q hq
            rw [hs_k2 c, hs_k2 c, hs_k2 c, hs_k2 c]
            by_cases d : q < k
            · rw [if_pos d, if_pos d] at a; rw [if_pos (by omega), if_pos (by omega)]; exact a
            · rw [if_neg d, if_neg d] at a; rw [if_neg (by omega), if_neg (by omega)]; exact a
set_option maxRecDepth 20000 in
set_option maxHeartbeats 4000000 in
theorem r_join (l : Launch) (g h : jH) (t ka kb kc : Int) (hI0 : IC g h t) (hka : jr ka) (hkb : jr kb) (hkc : jr kc) : cI l 296 [.ref 388, .int (jI ka), .int (jI kb), .int (jI kc)] h (PRF (Djoin (Tz h) ka kb kc)) := by
  have ka1 := hka.1
  have ka2 := hka.2
  have kb1 := hkb.1
  have kb2 := hkb.2
  have kc1 := hkc.1
  have kc2 := hkc.2
  refine cI.of rfl rfl ?_
  refine tl_aload_n rfl rfl ?_
  refine tl_iconst rfl ?_
  refine tl_puti (c := 12) (k9 := 0) rfl rfl rfl rfl ?_
  have hI := hI0.z
  change jT _ _ _ _ _ (Tz h) _
  generalize Tz h = m at hI ⊢
  refine tl_iload_n rfl rfl ?_
  refine tl_s1i (c_isSlotR l _ ka ⟨by omega, by omega⟩) rfl rfl rfl (Nat.le_of_ble_eq_true rfl) (fun zs1 hs1 ps1 => ?_)
  obtain ⟨qs1, ps1⟩ := ps1
  have qs1 := qs1.symm
  subst qs1
  have bs1 : zs1 = 0 ∧ (ka < 0 ∨ 2 < ka) ∨ zs1 = 1 ∧ 0 ≤ ka ∧ ka ≤ 2 := by rw [ps1]; split <;> omega
  refine tl_if_eq (tgt := 26) rfl rfl ⟨by omega, by omega⟩ (fun c1 => ?_) (fun c1 => ?_)
  · skip
    show jT _ _ 26 _ _ _ _
    refine tl_aload_n rfl rfl ?_
    refine tl_iconst rfl ?_
    refine tl_v1i (c9 := 12) (c_tell l _ _ ⟨by omega, by omega⟩ (by omega)) rfl rfl rfl rfl rfl (Nat.le_of_ble_eq_true rfl) (fun zt ht pt => ?_)
    obtain ⟨rfl, pt⟩ := pt
    refine tl_iret rfl ?_
    -- leaf 0 at 31
    refine ⟨_, rfl, ?_⟩
    rw [Djoin]
    repeat (first | rw [if_pos (by omega)] | rw [if_neg (by omega)])
    exact ⟨rfl, by rw [pt]; exact RF.rfl'⟩
  · show jT _ _ 12 _ _ _ _
    refine tl_iload_n rfl rfl ?_
    refine tl_s1i (c_isSlotR l _ kb ⟨by omega, by omega⟩) rfl rfl rfl (Nat.le_of_ble_eq_true rfl) (fun zs2 hs2 ps2 => ?_)
    obtain ⟨qs2, ps2⟩ := ps2
    have qs2 := qs2.symm
    subst qs2
    have bs2 : zs2 = 0 ∧ (kb < 0 ∨ 2 < kb) ∨ zs2 = 1 ∧ 0 ≤ kb ∧ kb ≤ 2 := by rw [ps2]; split <;> omega
    refine tl_if_eq (tgt := 26) rfl rfl ⟨by omega, by omega⟩ (fun c2 => ?_) (fun c2 => ?_)
    · skip
      show jT _ _ 26 _ _ _ _
      refine tl_aload_n rfl rfl ?_
      refine tl_iconst rfl ?_
      refine tl_v1i (c9 := 12) (c_tell l _ _ ⟨by omega, by omega⟩ (by omega)) rfl rfl rfl rfl rfl (Nat.le_of_ble_eq_true rfl) (fun zt ht pt => ?_)
      obtain ⟨rfl, pt⟩ := pt
      refine tl_iret rfl ?_
      -- leaf 1 at 31
      refine ⟨_, rfl, ?_⟩
      rw [Djoin]
      repeat (first | rw [if_pos (by omega)] | rw [if_neg (by omega)])
      exact ⟨rfl, by rw [pt]; exact RF.rfl'⟩
    · show jT _ _ 19 _ _ _ _
      refine tl_iload_n rfl rfl ?_
      refine tl_s1i (c_isSlotR l _ kc ⟨by omega, by omega⟩) rfl rfl rfl (Nat.le_of_ble_eq_true rfl) (fun zs3 hs3 ps3 => ?_)
      obtain ⟨qs3, ps3⟩ := ps3
      have qs3 := qs3.symm
      subst qs3
      have bs3 : zs3 = 0 ∧ (kc < 0 ∨ 2 < kc) ∨ zs3 = 1 ∧ 0 ≤ kc ∧ kc ≤ 2 := by rw [ps3]; split <;> omega
      refine tl_if_ne (tgt := 32) rfl rfl ⟨by omega, by omega⟩ (fun c3 => ?_) (fun c3 => ?_)
      · skip
        show jT _ _ 32 _ _ _ _
        refine tl_aload_n rfl rfl ?_
        refine tl_iload_n rfl rfl ?_
        refine tl_v1i (c9 := 12) (c_has l _ ka (by omega) (by omega) (by have a := (hI.sok ka (by omega) (by omega)).1; exact ⟨by omega, by omega⟩)) rfl rfl rfl rfl rfl (Nat.le_of_ble_eq_true rfl) (fun zh1 hh1 ph1 => ?_)
        obtain ⟨qh1, ph1⟩ := ph1
        have qh1 := qh1.symm
        subst qh1
        have bh1 : zh1 = 0 ∧ m 390 (200 + 301 * ka).toNat = -1 ∨ zh1 = 1 ∧ m 390 (200 + 301 * ka).toNat ≠ -1 := by rw [ph1]; split <;> omega
        refine tl_if_eq (tgt := 48) rfl rfl ⟨by omega, by omega⟩ (fun c4 => ?_) (fun c4 => ?_)
        · skip
          refine tl_aload_n rfl rfl ?_
          refine tl_bipush rfl rfl ?_
          refine tl_v1i (c9 := 12) (c_tell l _ _ ⟨by omega, by omega⟩ (by omega)) rfl rfl rfl rfl rfl (Nat.le_of_ble_eq_true rfl) (fun zt ht pt => ?_)
          obtain ⟨rfl, pt⟩ := pt
          show jT _ _ 54 _ _ _ _
          refine tl_iret rfl ?_
          -- leaf 2 at 54
          refine ⟨_, rfl, ?_⟩
          rw [Djoin]
          repeat (first | rw [if_pos (by omega)] | rw [if_neg (by omega)])
          exact ⟨rfl, by rw [pt]; exact RF.rfl'⟩
        · show jT _ _ 40 _ _ _ _
          refine tl_aload_n rfl rfl ?_
          refine tl_iload_n rfl rfl ?_
          refine tl_v1i (c9 := 12) (c_has l _ kb (by omega) (by omega) (by have a := (hI.sok kb (by omega) (by omega)).1; exact ⟨by omega, by omega⟩)) rfl rfl rfl rfl rfl (Nat.le_of_ble_eq_true rfl) (fun zh2 hh2 ph2 => ?_)
          obtain ⟨qh2, ph2⟩ := ph2
          have qh2 := qh2.symm
          subst qh2
          have bh2 : zh2 = 0 ∧ m 390 (200 + 301 * kb).toNat = -1 ∨ zh2 = 1 ∧ m 390 (200 + 301 * kb).toNat ≠ -1 := by rw [ph2]; split <;> omega
          refine tl_if_ne (tgt := 55) rfl rfl ⟨by omega, by omega⟩ (fun c5 => ?_) (fun c5 => ?_)
          · skip
            refine tl_aload_n rfl rfl ?_
            refine tl_aload_n rfl rfl ?_
            show jT _ _ 57 _ _ _ _
            refine tl_iload_n rfl rfl ?_
            refine tl_iconst rfl ?_
            refine tl_v2i (c9 := 12) (r_readSlot l m (m 390) rfl hI.ok hI.sok ka (by omega) (by omega) (by omega) false) rfl rfl rfl rfl rfl (Nat.le_of_ble_eq_true rfl) (fun z1 h1 p1 => ?_)
            obtain ⟨e1, g1, f1⟩ := p1
            have rb1 := rdF_b (slL (m 390) ka) false (m 390)
            subst e1
            refine tl_puti (c := 12) (k9 := 45) rfl rfl rfl rfl ?_
            show jT _ _ 65 _ _ _ _
            -- leaf 3 at 65
            have sb1 := hI.sok.b (k := ka) (by omega) (by omega) (by omega)
            have sb3 := hI.sok.b (k := kb) (by omega) (by omega) (by omega)
            by_cases z1 : (rdF (slL (m 390) ka) false (m 390)) = 0
            rotate_left
            · skip
              obtain ⟨v34, r34, n34⟩ := jI_nrm ((hs h1 388 45 (rdF (slL (m 390) ka) false (m 390))) 388 34)
              obtain ⟨v35, r35, n35⟩ := jI_nrm ((hs h1 388 45 (rdF (slL (m 390) ka) false (m 390))) 388 35)
              obtain ⟨v36, r36, n36⟩ := jI_nrm ((hs h1 388 45 (rdF (slL (m 390) ka) false (m 390))) 388 36)
              obtain ⟨v37, r37, n37⟩ := jI_nrm ((hs h1 388 45 (rdF (slL (m 390) ka) false (m 390))) 388 37)
              have r361 := r36.1
              have r362 := r36.2
              refine tl_aload_n rfl rfl ?_
              refine tl_geti (c := 12) (k9 := 34) rfl rfl rfl ?_
              rw [n34]
              refine tl_istore rfl (Nat.le_of_ble_eq_true rfl) rfl ?_
              refine tl_aload_n rfl rfl ?_
              refine tl_geti (c := 12) (k9 := 35) rfl rfl rfl ?_
              rw [n35]
              refine tl_istore rfl (Nat.le_of_ble_eq_true rfl) rfl ?_
              show jT _ _ 77 _ _ _ _
              refine tl_aload_n rfl rfl ?_
              refine tl_geti (c := 12) (k9 := 36) rfl rfl rfl ?_
              rw [n36]
              refine tl_istore rfl (Nat.le_of_ble_eq_true rfl) rfl ?_
              refine tl_aload_n rfl rfl ?_
              refine tl_geti (c := 12) (k9 := 37) rfl rfl rfl ?_
              rw [n37]
              refine tl_istore rfl (Nat.le_of_ble_eq_true rfl) rfl ?_
              refine tl_iconst rfl ?_
              show jT _ _ 90 _ _ _ _
              refine tl_istore rfl (Nat.le_of_ble_eq_true rfl) rfl ?_
              refine tl_iload rfl rfl ?_
              refine tl_iload rfl rfl ?_
              refine tl_icmp_ge (tgt := 140) rfl rfl ⟨by omega, by omega⟩ ⟨by omega, by omega⟩ (fun c1 => ?_) (fun c1 => ?_)
              · skip
                refine tl_aload_n rfl rfl ?_
                refine tl_aload_n rfl rfl ?_
                refine tl_geti (c := 12) (k9 := 45) rfl rfl rfl ?_
                rw [hs_s]
                show jT _ _ 145 _ _ _ _
                refine tl_if_ne (tgt := 157) rfl rfl ⟨by omega, by omega⟩ (fun c2 => ?_) (fun c2 => ?_)
                · skip
                  refine tl_aload_n rfl rfl ?_
                  refine tl_geti (c := 12) (k9 := 45) rfl rfl rfl ?_
                  rw [hs_s]
                  refine tl_puti (c := 12) (k9 := 45) rfl rfl rfl rfl ?_
                  refine tl_aload_n rfl rfl ?_
                  refine tl_geti (c := 12) (k9 := 45) rfl rfl rfl ?_
                  rw [hs_s]
                  refine tl_if_eq (tgt := 178) rfl rfl ⟨by omega, by omega⟩ (fun c3 => ?_) (fun c3 => ?_)
                  · skip
                    exfalso; omega
                  · show jT _ _ 171 _ _ _ _
                    show jT _ _ 171 _ _ _ _
                    refine tl_aload_n rfl rfl ?_
                    refine tl_bipush rfl rfl ?_
                    refine tl_v1i (c9 := 12) (c_tell l _ _ ⟨by omega, by omega⟩ (by omega)) rfl rfl rfl rfl rfl (Nat.le_of_ble_eq_true rfl) (fun zt ht pt => ?_)
                    obtain ⟨rfl, pt⟩ := pt
                    refine tl_iret rfl ?_
                    -- leaf 0 at 177
                    refine ⟨_, rfl, ?_⟩
                    rw [Djoin]
                    repeat (first | rw [if_pos (by omega)] | rw [if_neg (by omega)])
                    have rf9 : RF (lat m (rdF (slL (m 390) ka) false (m 390))) (hs (hs h1 388 45 (rdF (slL (m 390) ka) false (m 390))) 388 45 (rdF (slL (m 390) ka) false (m 390))) := RFlatI (fun x hx => by rw [hs_O (by omega), hs_O (by omega)]; exact f1.1 x (by omega) (by omega)) (fun q hq => by rw [hs_k (by omega), hs_k (by omega)]; exact f1.2 q (by omega) (by omega) (by omega)) hs_s
                    change ht = Ttell _ _ at pt
                    refine ⟨rfl, ?_⟩
                    rw [pt]
                    exact RF.tell rf9 _ (by decide)
                · show jT _ _ 148 _ _ _ _
                  exfalso; omega
              · show jT _ _ 99 _ _ _ _
                refine tl_aload_n rfl rfl ?_
                refine tl_geti (c := 12) (k9 := 45) rfl rfl rfl ?_
                rw [hs_s]
                refine tl_if_ne (tgt := 140) rfl rfl ⟨by omega, by omega⟩ (fun c4 => ?_) (fun c4 => ?_)
                · skip
                  show jT _ _ 140 _ _ _ _
                  refine tl_aload_n rfl rfl ?_
                  refine tl_aload_n rfl rfl ?_
                  refine tl_geti (c := 12) (k9 := 45) rfl rfl rfl ?_
                  rw [hs_s]
                  refine tl_if_ne (tgt := 157) rfl rfl ⟨by omega, by omega⟩ (fun c5 => ?_) (fun c5 => ?_)
                  · skip
                    refine tl_aload_n rfl rfl ?_
                    refine tl_geti (c := 12) (k9 := 45) rfl rfl rfl ?_
                    rw [hs_s]
                    refine tl_puti (c := 12) (k9 := 45) rfl rfl rfl rfl ?_
                    show jT _ _ 164 _ _ _ _
                    refine tl_aload_n rfl rfl ?_
                    refine tl_geti (c := 12) (k9 := 45) rfl rfl rfl ?_
                    rw [hs_s]
                    refine tl_if_eq (tgt := 178) rfl rfl ⟨by omega, by omega⟩ (fun c6 => ?_) (fun c6 => ?_)
                    · skip
                      exfalso; omega
                    · show jT _ _ 171 _ _ _ _
                      refine tl_aload_n rfl rfl ?_
                      refine tl_bipush rfl rfl ?_
                      refine tl_v1i (c9 := 12) (c_tell l _ _ ⟨by omega, by omega⟩ (by omega)) rfl rfl rfl rfl rfl (Nat.le_of_ble_eq_true rfl) (fun zt ht pt => ?_)
                      obtain ⟨rfl, pt⟩ := pt
                      refine tl_iret rfl ?_
                      -- leaf 1 at 177
                      refine ⟨_, rfl, ?_⟩
                      rw [Djoin]
                      repeat (first | rw [if_pos (by omega)] | rw [if_neg (by omega)])
                      have rf9 : RF (lat m (rdF (slL (m 390) ka) false (m 390))) (hs (hs h1 388 45 (rdF (slL (m 390) ka) false (m 390))) 388 45 (rdF (slL (m 390) ka) false (m 390))) := RFlatI (fun x hx => by rw [hs_O (by omega), hs_O (by omega)]; exact f1.1 x (by omega) (by omega)) (fun q hq => by rw [hs_k (by omega), hs_k (by omega)]; exact f1.2 q (by omega) (by omega) (by omega)) hs_s
                      change ht = Ttell _ _ at pt
                      refine ⟨rfl, ?_⟩
                      rw [pt]
                      exact RF.tell rf9 _ (by decide)
                  · show jT _ _ 148 _ _ _ _
                    exfalso; omega
                · show jT _ _ 106 _ _ _ _
                  exfalso; omega
            have G1 := (g1 z1).1
            have A := rdA sb1.1 sb1.2.2.2 z1
            have An := A.2.2.1
            refine tl_aload_n rfl rfl ?_
            refine tl_geti (c := 12) (k9 := 34) rfl rfl rfl ?_
            rw [hs_k (by decide), G1.1.1]
            refine tl_istore rfl (Nat.le_of_ble_eq_true rfl) rfl ?_
            refine tl_aload_n rfl rfl ?_
            refine tl_geti (c := 12) (k9 := 35) rfl rfl rfl ?_
            rw [hs_k (by decide), G1.1.2.1]
            refine tl_istore rfl (Nat.le_of_ble_eq_true rfl) rfl ?_
            show jT _ _ 77 _ _ _ _
            refine tl_aload_n rfl rfl ?_
            refine tl_geti (c := 12) (k9 := 36) rfl rfl rfl ?_
            rw [hs_k (by decide), G1.1.2.2.1, show rNs (slL (m 390) ka) = ((rNs (slL (m 390) ka)).toNat : Int) by omega]
            refine tl_istore rfl (Nat.le_of_ble_eq_true rfl) rfl ?_
            refine tl_aload_n rfl rfl ?_
            refine tl_geti (c := 12) (k9 := 37) rfl rfl rfl ?_
            rw [hs_k (by decide), G1.1.2.2.2.1]
            refine tl_istore rfl (Nat.le_of_ble_eq_true rfl) rfl ?_
            refine tl_iconst rfl ?_
            show jT _ _ 90 _ _ _ _
            refine tl_istore rfl (Nat.le_of_ble_eq_true rfl) rfl ?_
            show jT _ _ 92 _ _ _ _
            -- leaf 0 at 92
            refine jT.loc ?_ (r_jc_lp l (hs h1 388 45 (rdF (slL (m 390) ka) false (m 390))) (rNs (slL (m 390) ka)).toNat (by omega) (by rw [hs_s]; omega) ka kb kc (rOs (slL (m 390) ka)) (rOc (slL (m 390) ka)) (rNc (slL (m 390) ka)) _ (fun h2 p2 => ?_) _ 0 _ (Nat.lt_succ_self _) ⟨Nat.zero_le _, fun q hq => absurd hq (by omega), fun _ _ _ => rfl⟩)
            · rfl
            obtain ⟨g2, f2⟩ := p2
            refine tl_aload_n rfl rfl ?_
            refine tl_aload_n rfl rfl ?_
            refine tl_geti (c := 12) (k9 := 45) rfl rfl rfl ?_
            rw [f2 388 (by decide) (by decide), hs_s]
            refine tl_if_ne (tgt := 157) rfl rfl ⟨by omega, by omega⟩ (fun c1 => ?_) (fun c1 => ?_)
            · skip
              exfalso; omega
            · show jT _ _ 148 _ _ _ _
              refine tl_aload_n rfl rfl ?_
              refine tl_iload_n rfl rfl ?_
              show jT _ _ 150 _ _ _ _
              refine tl_iconst rfl ?_
              refine tl_v2i (c9 := 12) (r_readSlot l h2 (m 390) (by rw [f2 390 (by decide) (by decide), hs_O (by decide), f1.1 390 (by decide) (by omega)]) hI.ok hI.sok kb (by omega) (by omega) (by omega) false) rfl rfl rfl rfl rfl (Nat.le_of_ble_eq_true rfl) (fun z3 h3 p3 => ?_)
              obtain ⟨e3, g3, f3⟩ := p3
              have rb3 := rdF_b (slL (m 390) kb) false (m 390)
              subst e3
              refine tl_goto (tgt := 161) rfl rfl ?_
              refine tl_puti (c := 12) (k9 := 45) rfl rfl rfl rfl ?_
              refine tl_aload_n rfl rfl ?_
              refine tl_geti (c := 12) (k9 := 45) rfl rfl rfl ?_
              rw [hs_s]
              refine tl_if_eq (tgt := 178) rfl rfl ⟨by omega, by omega⟩ (fun c2 => ?_) (fun c2 => ?_)
              · skip
                show jT _ _ 178 _ _ _ _
                -- leaf 0 at 178
                have z3 : (rdF (slL (m 390) kb) false (m 390)) = 0 := by omega
                have G3 := (g3 z3).1
                have Bf := rdA sb3.1 sb3.2.2.2 z3
                have Bo := Bf.1
                have Bn := Bf.2.2.1
                have Bc := Bf.2.1
                have Ac := A.2.2.2.1
                refine tl_aload_n rfl rfl ?_
                refine tl_geti (c := 12) (k9 := 34) rfl rfl rfl ?_
                rw [hs_k (by decide), G3.1.1]
                refine tl_iload rfl rfl ?_
                refine tl_icmp_ne (tgt := 196) rfl rfl ⟨by omega, by omega⟩ ⟨by omega, by omega⟩ (fun c1 => ?_) (fun c1 => ?_)
                · skip
                  refine tl_aload_n rfl rfl ?_
                  refine tl_bipush rfl rfl ?_
                  show jT _ _ 199 _ _ _ _
                  refine tl_v1i (c9 := 12) (c_tell l _ _ ⟨by omega, by omega⟩ (by omega)) rfl rfl rfl rfl rfl (Nat.le_of_ble_eq_true rfl) (fun zt ht pt => ?_)
                  obtain ⟨rfl, pt⟩ := pt
                  refine tl_iret rfl ?_
                  -- leaf 0 at 202
                  refine ⟨_, rfl, ?_⟩
                  rw [Djoin]
                  repeat (first | rw [if_pos (by omega)] | rw [if_neg (by omega)])
                  have rf9 : RF (lat m 0) (hs h3 388 45 (rdF (slL (m 390) kb) false (m 390))) := RFlatI (fun x hx => by rw [hs_O (by omega), f3.1 x (by omega) (by omega), f2 x (by omega) (by omega), hs_O (by omega), f1.1 x (by omega) (by omega)]) (fun q hq => by rw [hs_k (by omega), f3.2 q (by omega) (by omega) (by omega), f2 388 (by decide) (by decide), hs_k (by omega), f1.2 q (by omega) (by omega) (by omega)]) (by rw [hs_s]; omega)
                  change ht = Ttell _ _ at pt
                  refine ⟨rfl, ?_⟩
                  rw [pt]
                  exact RF.tell rf9 _ (by decide)
                · show jT _ _ 187 _ _ _ _
                  refine tl_aload_n rfl rfl ?_
                  refine tl_geti (c := 12) (k9 := 35) rfl rfl rfl ?_
                  rw [hs_k (by decide), G3.1.2.1]
                  refine tl_iload rfl rfl ?_
                  refine tl_icmp_eq (tgt := 203) rfl rfl ⟨by omega, by omega⟩ ⟨by omega, by omega⟩ (fun c2 => ?_) (fun c2 => ?_)
                  · skip
                    refine tl_iconst rfl ?_
                    show jT _ _ 204 _ _ _ _
                    refine tl_istore rfl (Nat.le_of_ble_eq_true rfl) rfl ?_
                    show jT _ _ 206 _ _ _ _
                    -- leaf 1 at 206
                    have jb := JL_b (R := m 390) (a := ka) (b := kb) sb1.1 sb1.2.2.2 sb3.1 sb3.2.2.2 (by omega) (by omega) (by omega)
                    refine jT.loc ?_ (r_jf_lp l (hs h3 388 45 (rdF (slL (m 390) kb) false (m 390))) (rG (slL (m 390) ka)) (rG (slL (m 390) kb)) (rNs (slL (m 390) ka)).toNat (rNs (slL (m 390) kb)).toNat ⟨by rw [hs_k (by decide)]; exact G3.2.2.1.1, fun i hi => by rw [hs_O (by decide), hs_O (by decide)]; exact G3.2.2.1.2 i hi⟩ (fun q hq => by rw [hs_O (by decide), hs_O (by decide), f3.1 414 (by decide) (by omega), f3.1 415 (by decide) (by omega)]; have := g2 q hq; rw [this.1, this.2, hs_O (by decide), hs_O (by decide)]; exact G1.2.2.1.2 q hq) A.2.2.2.2.1 Bf.2.2.2.2.1 (fun q hq => by have := Bf.2.2.2.2.2.1 q hq; omega) ka kb kc (rOs (slL (m 390) ka)) (rOc (slL (m 390) ka)) ((rNs (slL (m 390) ka)).toNat : Int) (rNc (slL (m 390) ka)) _ (fun h4 p4 => ?_) _ 0 _ (Nat.lt_succ_self _) ⟨Nat.zero_le _, fun q hq => ?_, fun _ _ _ => rfl⟩)
                    · rfl
                    · obtain ⟨g4, f4⟩ := p4
                      refine tl_aload_n rfl rfl ?_
                      refine tl_iload rfl rfl ?_
                      refine tl_iload rfl rfl ?_
                      refine tl_aload_n rfl rfl ?_
                      refine tl_geti (c := 12) (k9 := 36) rfl rfl rfl ?_
                      rw [f4 388 (by decide) (by decide), hs_k (by decide), G3.1.2.2.1]
                      refine tl_aload_n rfl rfl ?_
                      show jT _ _ 292 _ _ _ _
                      refine tl_geti (c := 12) (k9 := 37) rfl rfl rfl ?_
                      rw [f4 388 (by decide) (by decide), hs_k (by decide), G3.1.2.2.2.1, show rNs (slL (m 390) kb) = ((rNs (slL (m 390) kb)).toNat : Int) by omega]
                      refine tl_v4v (c9 := 12) (r_pack l h4 (FOL (rG (slL (m 390) ka)) (rG (slL (m 390) kb))) (rNs (slL (m 390) kb)).toNat g4 jb.1 (rOs (slL (m 390) ka)) (rOc (slL (m 390) ka)) (rNc (slL (m 390) kb)) A.1 (by have := A.2.1; omega) (by have := Bf.2.2.2.1; omega)) rfl rfl rfl rfl rfl (Nat.le_of_ble_eq_true rfl) (fun h5 p5 => ?_)
                      obtain ⟨kL, f5⟩ := p5
                      have rf5 : RF (lat m 0) h5 := RFlatI (fun x hx => by rw [f5.1 x (by omega) (by omega) (by omega), f4 x (by omega) (by omega), hs_O (by omega), f3.1 x (by omega) (by omega), f2 x (by omega) (by omega), hs_O (by omega), f1.1 x (by omega) (by omega)]) (fun q hq => by rw [f5.2 q (by omega) (by omega), f4 388 (by decide) (by decide), hs_k (by omega), f3.2 q (by omega) (by omega) (by omega), f2 388 (by decide) (by decide), hs_k (by omega), f1.2 q (by omega) (by omega) (by omega)]) (by rw [f5.2 45 (by decide) (by decide), f4 388 (by decide) (by decide), hs_s]; omega)
                      have nu := hI.nund
                      have nu5 : 0 ≤ h5 388 6 ∧ h5 388 6 ≤ 16 := by rw [rf5.2 6 (by omega)]; show 0 ≤ hs m 388 45 0 388 6 ∧ hs m 388 45 0 388 6 ≤ 16; rw [hs_k (by decide)]; exact nu
                      refine tl_aload_n rfl rfl ?_
                      refine tl_bipush rfl rfl ?_
                      refine tl_v1v (c9 := 12) (r_remember l h5 9 nu5.1 nu5.2) rfl rfl rfl rfl rfl (Nat.le_of_ble_eq_true rfl) (fun h6 p6 => ?_)
                      subst p6
                      have kL2 : ML (Trem h5 9) (JL (m 390) ka kb) := ⟨by rw [Trem_n (by decide)]; exact kL.1, fun i hi => by rw [Trem_o (by decide) (by decide) (by decide)]; exact kL.2 i hi⟩
                      refine tl_aload_n rfl rfl ?_
                      refine tl_aload_n rfl rfl ?_
                      show jT _ _ 306 _ _ _ _
                      refine tl_iload_n rfl rfl ?_
                      refine tl_v1i (c9 := 12) (r_putMade l (Trem h5 9) kc (by omega) (by omega) _ kL2 (by omega)) rfl rfl rfl rfl rfl (Nat.le_of_ble_eq_true rfl) (fun z7 h7 p7 => ?_)
                      obtain ⟨rfl, p7⟩ := p7
                      subst p7
                      refine tl_v1i (c9 := 12) (c_tell l _ _ ⟨by omega, by omega⟩ (by omega)) rfl rfl rfl rfl rfl (Nat.le_of_ble_eq_true rfl) (fun zt ht pt => ?_)
                      obtain ⟨rfl, pt⟩ := pt
                      refine tl_iret rfl ?_
                      -- leaf 0 at 313
                      refine ⟨_, rfl, ?_⟩
                      rw [Djoin]
                      repeat (first | rw [if_pos (by omega)] | rw [if_neg (by omega)])
                      change ht = Ttell _ _ at pt
                      refine ⟨rfl, ?_⟩
                      rw [pt]
                      exact RF.tell ((rf5.rem 9).slot kc _) _ (by omega)
                    · rw [if_neg (by omega), if_neg (by omega), hs_O (by decide), hs_O (by decide)]; exact G3.2.2.1.2 q hq
                  · show jT _ _ 196 _ _ _ _
                    refine tl_aload_n rfl rfl ?_
                    refine tl_bipush rfl rfl ?_
                    refine tl_v1i (c9 := 12) (c_tell l _ _ ⟨by omega, by omega⟩ (by omega)) rfl rfl rfl rfl rfl (Nat.le_of_ble_eq_true rfl) (fun zt ht pt => ?_)
                    obtain ⟨rfl, pt⟩ := pt
                    refine tl_iret rfl ?_
                    -- leaf 2 at 202
                    refine ⟨_, rfl, ?_⟩
                    rw [Djoin]
                    repeat (first | rw [if_pos (by omega)] | rw [if_neg (by omega)])
                    have rf9 : RF (lat m 0) (hs h3 388 45 (rdF (slL (m 390) kb) false (m 390))) := RFlatI (fun x hx => by rw [hs_O (by omega), f3.1 x (by omega) (by omega), f2 x (by omega) (by omega), hs_O (by omega), f1.1 x (by omega) (by omega)]) (fun q hq => by rw [hs_k (by omega), f3.2 q (by omega) (by omega) (by omega), f2 388 (by decide) (by decide), hs_k (by omega), f1.2 q (by omega) (by omega) (by omega)]) (by rw [hs_s]; omega)
                    change ht = Ttell _ _ at pt
                    refine ⟨rfl, ?_⟩
                    rw [pt]
                    exact RF.tell rf9 _ (by decide)
              · show jT _ _ 171 _ _ _ _
                show jT _ _ 171 _ _ _ _
                refine tl_aload_n rfl rfl ?_
                refine tl_bipush rfl rfl ?_
                refine tl_v1i (c9 := 12) (c_tell l _ _ ⟨by omega, by omega⟩ (by omega)) rfl rfl rfl rfl rfl (Nat.le_of_ble_eq_true rfl) (fun zt ht pt => ?_)
                obtain ⟨rfl, pt⟩ := pt
                refine tl_iret rfl ?_
                -- leaf 1 at 177
                refine ⟨_, rfl, ?_⟩
                rw [Djoin]
                repeat (first | rw [if_pos (by omega)] | rw [if_neg (by omega)])
                have rf9 : RF (lat m (rdF (slL (m 390) kb) false (m 390))) (hs h3 388 45 (rdF (slL (m 390) kb) false (m 390))) := RFlatI (fun x hx => by rw [hs_O (by omega), f3.1 x (by omega) (by omega), f2 x (by omega) (by omega), hs_O (by omega), f1.1 x (by omega) (by omega)]) (fun q hq => by rw [hs_k (by omega), f3.2 q (by omega) (by omega) (by omega), f2 388 (by decide) (by decide), hs_k (by omega), f1.2 q (by omega) (by omega) (by omega)]) (by rw [hs_s])
                change ht = Ttell _ _ at pt
                refine ⟨rfl, ?_⟩
                rw [pt]
                exact RF.tell rf9 _ (by decide)
          · show jT _ _ 48 _ _ _ _
            refine tl_aload_n rfl rfl ?_
            refine tl_bipush rfl rfl ?_
            refine tl_v1i (c9 := 12) (c_tell l _ _ ⟨by omega, by omega⟩ (by omega)) rfl rfl rfl rfl rfl (Nat.le_of_ble_eq_true rfl) (fun zt ht pt => ?_)
            obtain ⟨rfl, pt⟩ := pt
            show jT _ _ 54 _ _ _ _
            refine tl_iret rfl ?_
            -- leaf 4 at 54
            refine ⟨_, rfl, ?_⟩
            rw [Djoin]
            repeat (first | rw [if_pos (by omega)] | rw [if_neg (by omega)])
            exact ⟨rfl, by rw [pt]; exact RF.rfl'⟩
      · show jT _ _ 26 _ _ _ _
        refine tl_aload_n rfl rfl ?_
        refine tl_iconst rfl ?_
        refine tl_v1i (c9 := 12) (c_tell l _ _ ⟨by omega, by omega⟩ (by omega)) rfl rfl rfl rfl rfl (Nat.le_of_ble_eq_true rfl) (fun zt ht pt => ?_)
        obtain ⟨rfl, pt⟩ := pt
        refine tl_iret rfl ?_
        -- leaf 5 at 31
        refine ⟨_, rfl, ?_⟩
        rw [Djoin]
        repeat (first | rw [if_pos (by omega)] | rw [if_neg (by omega)])
        exact ⟨rfl, by rw [pt]; exact RF.rfl'⟩
