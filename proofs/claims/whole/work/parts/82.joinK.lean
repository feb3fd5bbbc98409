/-! join, of the walked file -/
theorem rd0 {V : List Int} {fo : Bool} {R : Nat → Int} (z : rdF V fo R = 0) : hdF (TB V) (rN V) fo R = 0 ∧ rPf V = 0 ∧ (r1 V).1 = 0 ∧ (r2 V).1 = 0 ∧ ¬ (zb fo = 1 ∧ ckL (coL (rG V) R (rNs V).toNat) ≠ rNc V) := by
  unfold rdF at z
  refine ⟨?_, ?_, ?_, ?_, ?_⟩ <;> (repeat (first | omega | split at z)) <;> assumption
theorem rdA {V : List Int} {fo : Bool} {R : Nat → Int} (hV : LB V) (v3 : V.length ≤ 300) (z : rdF V fo R = 0) : (0 ≤ rOs V ∧ rOs V ≤ 64) ∧ (0 ≤ rOc V ∧ rOc V ≤ 16383) ∧ (0 ≤ rNs V ∧ rNs V ≤ 64) ∧ (0 ≤ rNc V ∧ rNc V ≤ 16383) ∧ OGv (rG V) (rNs V).toNat ∧ (∀ q, q < (rNs V).toNat → rG V 0 q = -1 ∨ (0 ≤ rG V 0 q ∧ rG V 0 q < rOs V)) ∧ (zb fo = 1 → rOs V = R 5 ∧ rOc V = ckO R ∧ OGs (rG V) R (rNs V).toNat ∧ ckL (coL (rG V) R (rNs V).toNat) = rNc V) := by
  obtain ⟨a, b, c, d, e⟩ := rd0 z
  have I0 := rd_I hV a
  have G := rd_G hV v3 a b c d
  refine ⟨I0.1, I0.2.1, I0.2.2.1, I0.2.2.2.1, G.2.2.1, G.2.2.2.2, fun w => ⟨(I0.2.2.2.2.2.2 w).1, (I0.2.2.2.2.2.2 w).2, G.2.2.2.1 w, ?_⟩⟩
  by_cases q : ckL (coL (rG V) R (rNs V).toNat) = rNc V
  · exact q
  · exact absurd ⟨w, q⟩ e
theorem PK.from9 {h h1 h' : jH} {t z : Int} {D : Int × jH} (p : PK h1 t D z h') (e : ∀ x, 388 ≤ x → h1 x = h x) : PK h t D z h' := ⟨p.1, p.2.1, fun x hx => (p.2.2 x hx).trans (e x hx)⟩
def JL (R : Nat → Int) (a b : Int) : List Int := PKL (FOL (rG (slL R a)) (rG (slL R b))) (rNs (slL R b)).toNat (rOs (slL R a)) (rOc (slL R a)) (rNc (slL R b))
def nof (R : Nat → Int) (k : Int) : Prop := R (200 + 301 * k).toNat = -1
def Djoin (s : jH) (a b c : Int) : Int × jH := if a < 0 ∨ 2 < a ∨ b < 0 ∨ 2 < b ∨ c < 0 ∨ 2 < c then dT s (-1) else if s 390 (200 + 301 * a).toNat = -1 ∨ s 390 (200 + 301 * b).toNat = -1 then dT s (-2) else if rdF (slL (s 390) a) false (s 390) ≠ 0 then dT (lat s (rdF (slL (s 390) a) false (s 390))) (-3) else if rdF (slL (s 390) b) false (s 390) ≠ 0 then dT (lat s (rdF (slL (s 390) b) false (s 390))) (-3) else if rOs (slL (s 390) b) ≠ rNs (slL (s 390) a) ∨ rOc (slL (s 390) b) ≠ rNc (slL (s 390) a) then dT (lat s 0) (-4) else dT (Tslot (Trem (lat s 0) 9) c (JL (s 390) a b)) ((JL (s 390) a b).length : Int)
theorem Ag.join {s s' : jH} (h : Ag s s') (a b c : Int) : AgD (Djoin s a b c) (Djoin s' a b c) := by
  unfold Djoin
  rw [h 390 (by decide)]
  split
  · exact h.d _
  · split
    · exact h.d _
    · split
      · exact (h.lat _).d _
      · split
        · exact (h.lat _).d _
        · split
          · exact (h.lat _).d _
          · exact (((h.lat _).rem 9).slot _ _).d _
theorem JL_b {R : Nat → Int} {a b : Int} (ha : LB (slL R a)) (a3 : (slL R a).length ≤ 300) (hb : LB (slL R b)) (b3 : (slL R b).length ≤ 300) (za : rdF (slL R a) false R = 0) (zb9 : rdF (slL R b) false R = 0) (e : rOs (slL R b) = rNs (slL R a)) : OGv (FOL (rG (slL R a)) (rG (slL R b))) (rNs (slL R b)).toNat ∧ 2 ≤ (JL R a b).length ∧ (JL R a b).length ≤ 267 ∧ LB (JL R a b) := by
  have A := rdA ha a3 za
  have B := rdA hb b3 zb9
  have hv := FOL_v A.2.2.2.2.1 B.2.2.2.2.1 (fun q hq => by have := B.2.2.2.2.2.1 q hq; have := A.2.2.1; omega)
  exact ⟨hv, (pk_b hv A.1 (by have := A.2.1; omega) (by have := B.2.2.2.1; omega)).2.2.2.2⟩
set_option maxRecDepth 20000 in
set_option maxHeartbeats 1000000 in
theorem k_join (l : Launch) (h s : jH) (t ka kb kc : Int) (hI : IC h s t) (hka : jr ka) (hkb : jr kb) (hkc : jr kc) : cI l 152 [.ref 0, .int (jI ka), .int (jI kb), .int (jI kc)] h (PK h t (Djoin s ka kb kc)) := by
  have ka1 := hka.1
  have ka2 := hka.2
  have kb1 := hkb.1
  have kb2 := hkb.2
  have kc1 := hkc.1
  have kc2 := hkc.2
  refine cI.of rfl rfl ?_
  refine tl_iload_n rfl rfl ?_
  refine tl_s1i (k_isSlot l _ ka ⟨by omega, by omega⟩) rfl rfl rfl (Nat.le_of_ble_eq_true rfl) (fun zs1 hs1 ps1 => ?_)
  obtain ⟨qs1, ps1⟩ := ps1
  have qs1 := qs1.symm
  subst qs1
  have bs1 : zs1 = 0 ∧ (ka < 0 ∨ 2 < ka) ∨ zs1 = 1 ∧ 0 ≤ ka ∧ ka ≤ 2 := by rw [ps1]; split <;> omega
  refine tl_if_eq (tgt := 21) rfl rfl ⟨by omega, by omega⟩ (fun c1 => ?_) (fun c1 => ?_)
  · skip
    refine tl_aload_n rfl rfl ?_
    refine tl_iconst rfl ?_
    refine tl_v1i (c9 := 11) (k_refuse l _ _ (by omega) (by omega)) rfl rfl rfl rfl rfl (Nat.le_of_ble_eq_true rfl) (fun zr hr pr => ?_)
    obtain ⟨rfl, rfl⟩ := pr
    show jT _ _ 26 _ _ _ _
    refine tl_iret rfl ?_
    -- leaf 0 at 26
    refine ⟨_, rfl, ?_⟩
    rw [Djoin]
    repeat (first | rw [if_pos (by omega)] | rw [if_neg (by omega)])
    exact PK.ref hI (by omega) (by omega)
  · show jT _ _ 7 _ _ _ _
    refine tl_iload_n rfl rfl ?_
    refine tl_s1i (k_isSlot l _ kb ⟨by omega, by omega⟩) rfl rfl rfl (Nat.le_of_ble_eq_true rfl) (fun zs2 hs2 ps2 => ?_)
    obtain ⟨qs2, ps2⟩ := ps2
    have qs2 := qs2.symm
    subst qs2
    have bs2 : zs2 = 0 ∧ (kb < 0 ∨ 2 < kb) ∨ zs2 = 1 ∧ 0 ≤ kb ∧ kb ≤ 2 := by rw [ps2]; split <;> omega
    refine tl_if_eq (tgt := 21) rfl rfl ⟨by omega, by omega⟩ (fun c2 => ?_) (fun c2 => ?_)
    · skip
      refine tl_aload_n rfl rfl ?_
      refine tl_iconst rfl ?_
      refine tl_v1i (c9 := 11) (k_refuse l _ _ (by omega) (by omega)) rfl rfl rfl rfl rfl (Nat.le_of_ble_eq_true rfl) (fun zr hr pr => ?_)
      obtain ⟨rfl, rfl⟩ := pr
      show jT _ _ 26 _ _ _ _
      refine tl_iret rfl ?_
      -- leaf 1 at 26
      refine ⟨_, rfl, ?_⟩
      rw [Djoin]
      repeat (first | rw [if_pos (by omega)] | rw [if_neg (by omega)])
      exact PK.ref hI (by omega) (by omega)
    · show jT _ _ 14 _ _ _ _
      refine tl_iload_n rfl rfl ?_
      refine tl_s1i (k_isSlot l _ kc ⟨by omega, by omega⟩) rfl rfl rfl (Nat.le_of_ble_eq_true rfl) (fun zs3 hs3 ps3 => ?_)
      obtain ⟨qs3, ps3⟩ := ps3
      have qs3 := qs3.symm
      subst qs3
      have bs3 : zs3 = 0 ∧ (kc < 0 ∨ 2 < kc) ∨ zs3 = 1 ∧ 0 ≤ kc ∧ kc ≤ 2 := by rw [ps3]; split <;> omega
      refine tl_if_ne (tgt := 27) rfl rfl ⟨by omega, by omega⟩ (fun c3 => ?_) (fun c3 => ?_)
      · skip
        refine tl_aload_n rfl rfl ?_
        refine tl_iload_n rfl rfl ?_
        refine tl_v1i (c9 := 11) (k_isFull l _ _ hI.1 ka ⟨by omega, by omega⟩) rfl rfl rfl rfl rfl (Nat.le_of_ble_eq_true rfl) (fun zf1 hf1 pf1 => ?_)
        obtain ⟨qf1, pf1⟩ := pf1
        have qf1 := qf1.symm
        subst qf1
        have bf1 : zf1 = 0 ∧ s 390 (200 + 301 * ka).toNat = -1 ∨ zf1 = 1 ∧ s 390 (200 + 301 * ka).toNat ≠ -1 := by rw [pf1]; by_cases c : s 390 (200 + 301 * ka).toNat = -1; (rw [if_neg (by omega)]; omega); (rw [if_pos (by omega)]; omega)
        show jT _ _ 32 _ _ _ _
        refine tl_if_eq (tgt := 43) rfl rfl ⟨by omega, by omega⟩ (fun c4 => ?_) (fun c4 => ?_)
        · skip
          refine tl_aload_n rfl rfl ?_
          refine tl_bipush rfl rfl ?_
          refine tl_v1i (c9 := 11) (k_refuse l _ _ (by omega) (by omega)) rfl rfl rfl rfl rfl (Nat.le_of_ble_eq_true rfl) (fun zr hr pr => ?_)
          obtain ⟨rfl, rfl⟩ := pr
          refine tl_iret rfl ?_
          -- leaf 2 at 49
          refine ⟨_, rfl, ?_⟩
          rw [Djoin]
          repeat (first | rw [if_pos (by omega)] | rw [if_neg (by omega)])
          exact PK.ref hI (by omega) (by omega)
        · show jT _ _ 35 _ _ _ _
          refine tl_aload_n rfl rfl ?_
          refine tl_iload_n rfl rfl ?_
          show jT _ _ 37 _ _ _ _
          refine tl_v1i (c9 := 11) (k_isFull l _ _ hI.1 kb ⟨by omega, by omega⟩) rfl rfl rfl rfl rfl (Nat.le_of_ble_eq_true rfl) (fun zf2 hf2 pf2 => ?_)
          obtain ⟨qf2, pf2⟩ := pf2
          have qf2 := qf2.symm
          subst qf2
          have bf2 : zf2 = 0 ∧ s 390 (200 + 301 * kb).toNat = -1 ∨ zf2 = 1 ∧ s 390 (200 + 301 * kb).toNat ≠ -1 := by rw [pf2]; by_cases c : s 390 (200 + 301 * kb).toNat = -1; (rw [if_neg (by omega)]; omega); (rw [if_pos (by omega)]; omega)
          refine tl_if_ne (tgt := 50) rfl rfl ⟨by omega, by omega⟩ (fun c5 => ?_) (fun c5 => ?_)
          · skip
            refine tl_aload_n rfl rfl ?_
            refine tl_aload_n rfl rfl ?_
            refine tl_getr (c := 11) (k9 := 13) (b := 339) rfl rfl rfl rfl ?_
            refine tl_aload_n rfl rfl ?_
            refine tl_getr (c := 11) (k9 := 0) (b := 1) rfl rfl rfl rfl ?_
            show jT _ _ 59 _ _ _ _
            refine tl_getr (c := 9) (k9 := 3) (b := 8) rfl rfl rfl rfl ?_
            have hSa := RSs_S ka.toNat (by omega)
            have hSb := RSs_S kb.toNat (by omega)
            have sb1 := hI.sok.b (k := ka) (by omega) (by omega) (by omega)
            have sb3 := hI.sok.b (k := kb) (by omega) (by omega) (by omega)
            refine tl_iload_n rfl rfl ?_
            refine tl_aald (n := 3) rfl (Or.inl rfl) rfl (by omega) (by omega) (sr8 ka.toNat (by omega)) ?_
            refine tl_aload_n rfl rfl ?_
            refine tl_getr (c := 11) (k9 := 0) (b := 1) rfl rfl rfl rfl ?_
            refine tl_getr (c := 9) (k9 := 0) (b := 2) rfl rfl rfl rfl ?_
            refine tl_iconst rfl ?_
            show jT _ _ 72 _ _ _ _
            refine tl_v3i (c9 := 6) (k_read l hSa ⟨by omega, by omega⟩ h (s 390) hI.1 (slL (s 390) ka) (hI.1.sl (by omega) (by omega) (by omega)) sb1.1 sb1.2.2.2 sb1.2.2.2 false) rfl rfl rfl rfl rfl (Nat.le_of_ble_eq_true rfl) (fun z1 h1 p1 => ?_)
            obtain ⟨e1, g1, f1⟩ := p1
            have rb1 := rdF_b (slL (s 390) ka) false (s 390)
            subst e1
            refine tl_puti (c := 11) (k9 := 9) rfl rfl rfl rfl ?_
            refine tl_aload_n rfl rfl ?_
            refine tl_geti (c := 11) (k9 := 9) rfl rfl rfl ?_
            rw [hs_s]
            refine tl_if_eq (tgt := 92) rfl rfl ⟨by omega, by omega⟩ (fun c6 => ?_) (fun c6 => ?_)
            · skip
              have G1 := (g1 c6).1
              have A := rdA sb1.1 sb1.2.2.2 c6
              have An := A.2.2.1
              refine tl_aload_n rfl rfl ?_
              refine tl_getr (c := 11) (k9 := 18) (b := 383) rfl rfl rfl rfl ?_
              show jT _ _ 96 _ _ _ _
              refine tl_aload_n rfl rfl ?_
              refine tl_getr (c := 11) (k9 := 13) (b := 339) rfl rfl rfl rfl ?_
              refine tl_getr (c := 6) (k9 := 10) (b := 345) rfl rfl rfl rfl ?_
              refine tl_v1v (c9 := 3) (c_Or_copy l Or383 Or345 (by decide) (hs h1 0 9 (rdF (slL (s 390) ka) false (s 390))) (rG (slL (s 390) ka)) (rNs (slL (s 390) ka)).toNat (by omega) (G1.2.2.1.of (hs_O (by decide)) (hs_O (by decide)) (hs_O (by decide)))) rfl rfl rfl rfl rfl (Nat.le_of_ble_eq_true rfl) (fun h2 p2 => ?_)
              obtain ⟨g2, f2⟩ := p2
              refine tl_aload_n rfl rfl ?_
              refine tl_getr (c := 11) (k9 := 13) (b := 339) rfl rfl rfl rfl ?_
              refine tl_geti (c := 6) (k9 := 0) rfl rfl rfl ?_
              rw [f2 339 (by decide) (by decide) (by decide), hs_O (by decide), G1.1.1]
              show jT _ _ 113 _ _ _ _
              refine tl_istore rfl (Nat.le_of_ble_eq_true rfl) rfl ?_
              refine tl_aload_n rfl rfl ?_
              refine tl_getr (c := 11) (k9 := 13) (b := 339) rfl rfl rfl rfl ?_
              refine tl_geti (c := 6) (k9 := 1) rfl rfl rfl ?_
              rw [f2 339 (by decide) (by decide) (by decide), hs_O (by decide), G1.1.2.1]
              refine tl_istore rfl (Nat.le_of_ble_eq_true rfl) rfl ?_
              refine tl_aload_n rfl rfl ?_
              refine tl_getr (c := 11) (k9 := 13) (b := 339) rfl rfl rfl rfl ?_
              show jT _ _ 128 _ _ _ _
              refine tl_geti (c := 6) (k9 := 3) rfl rfl rfl ?_
              rw [f2 339 (by decide) (by decide) (by decide), hs_O (by decide), G1.1.2.2.2.1]
              refine tl_istore rfl (Nat.le_of_ble_eq_true rfl) rfl ?_
              refine tl_aload_n rfl rfl ?_
              refine tl_aload_n rfl rfl ?_
              refine tl_getr (c := 11) (k9 := 13) (b := 339) rfl rfl rfl rfl ?_
              refine tl_aload_n rfl rfl ?_
              refine tl_getr (c := 11) (k9 := 0) (b := 1) rfl rfl rfl rfl ?_
              show jT _ _ 142 _ _ _ _
              refine tl_getr (c := 9) (k9 := 3) (b := 8) rfl rfl rfl rfl ?_
              have hR2 : RS h2 1 (s 390) := hI.1.of (fun x x1 x2 => by rw [f2 x (by omega) (by omega) (by omega), hs_O (by omega), f1 x (by omega)])
              refine tl_iload_n rfl rfl ?_
              refine tl_aald (n := 3) rfl (Or.inl rfl) rfl (by omega) (by omega) (sr8 kb.toNat (by omega)) ?_
              refine tl_aload_n rfl rfl ?_
              refine tl_getr (c := 11) (k9 := 0) (b := 1) rfl rfl rfl rfl ?_
              refine tl_getr (c := 9) (k9 := 0) (b := 2) rfl rfl rfl rfl ?_
              refine tl_iconst rfl ?_
              show jT _ _ 155 _ _ _ _
              refine tl_v3i (c9 := 6) (k_read l hSb ⟨by omega, by omega⟩ h2 (s 390) hR2 (slL (s 390) kb) (hR2.sl (by omega) (by omega) (by omega)) sb3.1 sb3.2.2.2 sb3.2.2.2 false) rfl rfl rfl rfl rfl (Nat.le_of_ble_eq_true rfl) (fun z3 h3 p3 => ?_)
              obtain ⟨e3, g3, f3⟩ := p3
              have rb3 := rdF_b (slL (s 390) kb) false (s 390)
              subst e3
              refine tl_puti (c := 11) (k9 := 9) rfl rfl rfl rfl ?_
              refine tl_aload_n rfl rfl ?_
              refine tl_geti (c := 11) (k9 := 9) rfl rfl rfl ?_
              rw [hs_s]
              refine tl_if_eq (tgt := 175) rfl rfl ⟨by omega, by omega⟩ (fun c7 => ?_) (fun c7 => ?_)
              · skip
                have G3 := (g3 c7).1
                have Bf := rdA sb3.1 sb3.2.2.2 c7
                have Bo := Bf.1
                have Bn := Bf.2.2.1
                have Bc := Bf.2.1
                have Ac := A.2.2.2.1
                have n3 : h3 383 2 = rNs (slL (s 390) ka) := by rw [f3 383 (by decide), g2.1]; omega
                refine tl_aload_n rfl rfl ?_
                refine tl_getr (c := 11) (k9 := 13) (b := 339) rfl rfl rfl rfl ?_
                show jT _ _ 179 _ _ _ _
                refine tl_geti (c := 6) (k9 := 0) rfl rfl rfl ?_
                rw [hs_O (by decide), G3.1.1]
                refine tl_aload_n rfl rfl ?_
                refine tl_getr (c := 11) (k9 := 18) (b := 383) rfl rfl rfl rfl ?_
                refine tl_geti (c := 3) (k9 := 2) rfl rfl rfl ?_
                rw [hs_O (by decide), n3]
                refine tl_icmp_ne (tgt := 204) rfl rfl ⟨by omega, by omega⟩ ⟨by omega, by omega⟩ (fun c8 => ?_) (fun c8 => ?_)
                · skip
                  refine tl_aload_n rfl rfl ?_
                  refine tl_bipush rfl rfl ?_
                  show jT _ _ 207 _ _ _ _
                  refine tl_v1i (c9 := 11) (k_refuse l _ _ (by omega) (by omega)) rfl rfl rfl rfl rfl (Nat.le_of_ble_eq_true rfl) (fun zr hr pr => ?_)
                  obtain ⟨rfl, rfl⟩ := pr
                  refine tl_iret rfl ?_
                  -- leaf 3 at 210
                  refine ⟨_, rfl, ?_⟩
                  rw [Djoin]
                  repeat (first | rw [if_pos (by omega)] | rw [if_neg (by omega)])
                  have ic : IC (hs h3 0 9 (rdF (slL (s 390) kb) false (s 390))) (lat s (rdF (slL (s 390) kb) false (s 390))) t := hI.lat9 rb3 (fun x x0 hx => by rw [hs_O (by omega), f3 x (by omega), f2 x (by omega) (by omega) (by omega), hs_O (by omega), f1 x (by omega)]) (fun q hq => by rw [hs_k hq, f3 0 (by omega), f2 0 (by omega) (by omega) (by omega), hs_k hq, f1 0 (by omega)]) hs_s
                  rw [show rdF (slL (s 390) kb) false (s 390) = 0 by omega] at ic ⊢
                  exact (PK.ref ic (by omega) (by omega)).from9 (fun x hx => by rw [hs_O (by omega), f3 x (by omega), f2 x (by omega) (by omega) (by omega), hs_O (by omega), f1 x (by omega)])
                · show jT _ _ 192 _ _ _ _
                  refine tl_aload_n rfl rfl ?_
                  refine tl_getr (c := 11) (k9 := 13) (b := 339) rfl rfl rfl rfl ?_
                  refine tl_geti (c := 6) (k9 := 1) rfl rfl rfl ?_
                  rw [hs_O (by decide), G3.1.2.1]
                  refine tl_iload rfl rfl ?_
                  refine tl_icmp_eq (tgt := 211) rfl rfl ⟨by omega, by omega⟩ ⟨by omega, by omega⟩ (fun c9 => ?_) (fun c9 => ?_)
                  · skip
                    show jT _ _ 211 _ _ _ _
                    refine tl_aload_n rfl rfl ?_
                    refine tl_getr (c := 11) (k9 := 13) (b := 339) rfl rfl rfl rfl ?_
                    refine tl_getr (c := 6) (k9 := 10) (b := 345) rfl rfl rfl rfl ?_
                    refine tl_aload_n rfl rfl ?_
                    refine tl_getr (c := 11) (k9 := 18) (b := 383) rfl rfl rfl rfl ?_
                    refine tl_v1v (c9 := 3) (k_follow l (hs h3 0 9 (rdF (slL (s 390) kb) false (s 390))) (rG (slL (s 390) ka)) (rG (slL (s 390) kb)) (rNs (slL (s 390) ka)).toNat (rNs (slL (s 390) kb)).toNat (G3.2.2.1.of (hs_O (by decide)) (hs_O (by decide)) (hs_O (by decide))) (g2.of (by rw [hs_O (by decide)]; exact f3 383 (by decide)) (by rw [hs_O (by decide)]; exact f3 384 (by decide)) (by rw [hs_O (by decide)]; exact f3 385 (by decide))) A.2.2.2.2.1 Bf.2.2.2.2.1 (fun q hq => by have := Bf.2.2.2.2.2.1 q hq; omega)) rfl rfl rfl rfl rfl (Nat.le_of_ble_eq_true rfl) (fun h4 p4 => ?_)
                    obtain ⟨g4, f4⟩ := p4
                    have jb := JL_b (R := s 390) (a := ka) (b := kb) sb1.1 sb1.2.2.2 sb3.1 sb3.2.2.2 (by omega) (by omega) (by omega)
                    refine tl_aload_n rfl rfl ?_
                    show jT _ _ 226 _ _ _ _
                    refine tl_getr (c := 11) (k9 := 12) (b := 328) rfl rfl rfl rfl ?_
                    refine tl_aload_n rfl rfl ?_
                    refine tl_getr (c := 11) (k9 := 13) (b := 339) rfl rfl rfl rfl ?_
                    refine tl_getr (c := 6) (k9 := 10) (b := 345) rfl rfl rfl rfl ?_
                    refine tl_iload rfl rfl ?_
                    refine tl_iload rfl rfl ?_
                    refine tl_aload_n rfl rfl ?_
                    show jT _ _ 241 _ _ _ _
                    refine tl_getr (c := 11) (k9 := 13) (b := 339) rfl rfl rfl rfl ?_
                    refine tl_geti (c := 6) (k9 := 3) rfl rfl rfl ?_
                    rw [f4 339 (by decide) (by decide), hs_O (by decide), G3.1.2.2.2.1]
                    refine tl_v4i (c9 := 4) (k_pack l Or345 ⟨by decide, by decide, by decide⟩ h4 (FOL (rG (slL (s 390) ka)) (rG (slL (s 390) kb))) (rNs (slL (s 390) kb)).toNat g4 jb.1 (rOs (slL (s 390) ka)) (rOc (slL (s 390) ka)) (rNc (slL (s 390) kb)) A.1 (by have := A.2.1; omega) (by have := Bf.2.2.2.1; omega)) rfl rfl rfl rfl rfl (Nat.le_of_ble_eq_true rfl) (fun z5 h5 p5 => ?_)
                    obtain ⟨e5, k5, f5⟩ := p5
                    have ic5 : IC h5 (lat s 0) t := hI.lat9 (by decide) (fun x x0 hx => by rw [f5 x (by omega), f4 x (by omega) (by omega), hs_O (by omega), f3 x (by omega), f2 x (by omega) (by omega) (by omega), hs_O (by omega), f1 x (by omega)]) (fun q hq => by rw [f5 0 (by omega), f4 0 (by omega) (by omega), hs_k hq, f3 0 (by omega), f2 0 (by omega) (by omega) (by omega), hs_k hq, f1 0 (by omega)]) (by rw [f5 0 (by omega), f4 0 (by omega) (by omega), hs_s]; omega)
                    refine tl_pop rfl rfl ?_
                    refine tl_aload_n rfl rfl ?_
                    refine tl_bipush rfl rfl ?_
                    refine tl_iload_n rfl rfl ?_
                    show jT _ _ 255 _ _ _ _
                    refine tl_v2i (c9 := 11) (k_keepMade l h5 (lat s 0) t 9 kc ic5 (by omega) (by omega) (by omega) (by omega) (JL (s 390) ka kb) k5 (by omega) (by omega) jb.2.2.2) rfl rfl rfl rfl rfl (Nat.le_of_ble_eq_true rfl) (fun z6 h6 p6 => ?_)
                    refine tl_iret rfl ?_
                    -- leaf 4 at 258
                    refine ⟨_, rfl, ?_⟩
                    rw [Djoin]
                    repeat (first | rw [if_pos (by omega)] | rw [if_neg (by omega)])
                    exact p6.from9 (fun x hx => by rw [f5 x (by omega), f4 x (by omega) (by omega), hs_O (by omega), f3 x (by omega), f2 x (by omega) (by omega) (by omega), hs_O (by omega), f1 x (by omega)])
                  · show jT _ _ 204 _ _ _ _
                    refine tl_aload_n rfl rfl ?_
                    refine tl_bipush rfl rfl ?_
                    refine tl_v1i (c9 := 11) (k_refuse l _ _ (by omega) (by omega)) rfl rfl rfl rfl rfl (Nat.le_of_ble_eq_true rfl) (fun zr hr pr => ?_)
                    obtain ⟨rfl, rfl⟩ := pr
                    refine tl_iret rfl ?_
                    -- leaf 5 at 210
                    refine ⟨_, rfl, ?_⟩
                    rw [Djoin]
                    repeat (first | rw [if_pos (by omega)] | rw [if_neg (by omega)])
                    have ic : IC (hs h3 0 9 (rdF (slL (s 390) kb) false (s 390))) (lat s (rdF (slL (s 390) kb) false (s 390))) t := hI.lat9 rb3 (fun x x0 hx => by rw [hs_O (by omega), f3 x (by omega), f2 x (by omega) (by omega) (by omega), hs_O (by omega), f1 x (by omega)]) (fun q hq => by rw [hs_k hq, f3 0 (by omega), f2 0 (by omega) (by omega) (by omega), hs_k hq, f1 0 (by omega)]) hs_s
                    rw [show rdF (slL (s 390) kb) false (s 390) = 0 by omega] at ic ⊢
                    exact (PK.ref ic (by omega) (by omega)).from9 (fun x hx => by rw [hs_O (by omega), f3 x (by omega), f2 x (by omega) (by omega) (by omega), hs_O (by omega), f1 x (by omega)])
              · show jT _ _ 168 _ _ _ _
                refine tl_aload_n rfl rfl ?_
                show jT _ _ 169 _ _ _ _
                refine tl_bipush rfl rfl ?_
                refine tl_v1i (c9 := 11) (k_refuse l _ _ (by omega) (by omega)) rfl rfl rfl rfl rfl (Nat.le_of_ble_eq_true rfl) (fun zr hr pr => ?_)
                obtain ⟨rfl, rfl⟩ := pr
                refine tl_iret rfl ?_
                -- leaf 6 at 174
                refine ⟨_, rfl, ?_⟩
                rw [Djoin]
                repeat (first | rw [if_pos (by omega)] | rw [if_neg (by omega)])
                have ic : IC (hs h3 0 9 (rdF (slL (s 390) kb) false (s 390))) (lat s (rdF (slL (s 390) kb) false (s 390))) t := hI.lat9 rb3 (fun x x0 hx => by rw [hs_O (by omega), f3 x (by omega), f2 x (by omega) (by omega) (by omega), hs_O (by omega), f1 x (by omega)]) (fun q hq => by rw [hs_k hq, f3 0 (by omega), f2 0 (by omega) (by omega) (by omega), hs_k hq, f1 0 (by omega)]) hs_s
                exact (PK.ref ic (by omega) (by omega)).from9 (fun x hx => by rw [hs_O (by omega), f3 x (by omega), f2 x (by omega) (by omega) (by omega), hs_O (by omega), f1 x (by omega)])
            · show jT _ _ 85 _ _ _ _
              refine tl_aload_n rfl rfl ?_
              refine tl_bipush rfl rfl ?_
              refine tl_v1i (c9 := 11) (k_refuse l _ _ (by omega) (by omega)) rfl rfl rfl rfl rfl (Nat.le_of_ble_eq_true rfl) (fun zr hr pr => ?_)
              obtain ⟨rfl, rfl⟩ := pr
              refine tl_iret rfl ?_
              -- leaf 7 at 91
              refine ⟨_, rfl, ?_⟩
              rw [Djoin]
              repeat (first | rw [if_pos (by omega)] | rw [if_neg (by omega)])
              have ic : IC (hs h1 0 9 (rdF (slL (s 390) ka) false (s 390))) (lat s (rdF (slL (s 390) ka) false (s 390))) t := hI.lat9 rb1 (fun x x0 hx => by rw [hs_O (by omega), f1 x (by omega)]) (fun q hq => by rw [hs_k hq, f1 0 (by omega)]) hs_s
              exact (PK.ref ic (by omega) (by omega)).from9 (fun x hx => by rw [hs_O (by omega), f1 x (by omega)])
          · show jT _ _ 43 _ _ _ _
            show jT _ _ 43 _ _ _ _
            refine tl_aload_n rfl rfl ?_
            refine tl_bipush rfl rfl ?_
            refine tl_v1i (c9 := 11) (k_refuse l _ _ (by omega) (by omega)) rfl rfl rfl rfl rfl (Nat.le_of_ble_eq_true rfl) (fun zr hr pr => ?_)
            obtain ⟨rfl, rfl⟩ := pr
            refine tl_iret rfl ?_
            -- leaf 8 at 49
            refine ⟨_, rfl, ?_⟩
            rw [Djoin]
            repeat (first | rw [if_pos (by omega)] | rw [if_neg (by omega)])
            exact PK.ref hI (by omega) (by omega)
      · show jT _ _ 21 _ _ _ _
        refine tl_aload_n rfl rfl ?_
        refine tl_iconst rfl ?_
        refine tl_v1i (c9 := 11) (k_refuse l _ _ (by omega) (by omega)) rfl rfl rfl rfl rfl (Nat.le_of_ble_eq_true rfl) (fun zr hr pr => ?_)
        obtain ⟨rfl, rfl⟩ := pr
        show jT _ _ 26 _ _ _ _
        refine tl_iret rfl ?_
        -- leaf 9 at 26
        refine ⟨_, rfl, ?_⟩
        rw [Djoin]
        repeat (first | rw [if_pos (by omega)] | rw [if_neg (by omega)])
        exact PK.ref hI (by omega) (by omega)
