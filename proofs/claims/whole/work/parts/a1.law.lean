/-! the law's loop -/
set_option maxRecDepth 20000 in
set_option maxHeartbeats 1000000 in
theorem lc_size (l : Launch) (h : jH) (t : Int) (i : Nat) (hI : IC h h t) (hj : ∀ q, jr (h 1000000 q)) (hi6 : (i : Int) + 6 ≤ h 1000001 0) (hn : h 1000001 0 ≤ 3072) (P : Option Value → jH → Prop) (hx : ∀ h2, IC h2 h2 (t + 1) → h2 1000000 = h 1000000 → h2 1000001 = h 1000001 → jT l 359 1679 [some (.ref 1000000), some (.ref 0), some (.ref 388), some (.int (jI (i : Int)))] [] h2 P) : jT l 359 260 [some (.ref 1000000), some (.ref 0), some (.ref 388), some (.int (jI (i : Int)))] [] h P := by
  have hi9 := hi6
  refine tl_aload_n rfl rfl ?_
  refine tl_aload_n rfl rfl ?_
  refine tl_iload_n rfl rfl ?_
  refine tl_iconst rfl ?_
  refine tl_iadd rfl ?_
  refine tl_iald_sc rfl (by omega) (by omega) hn ?_
  show jT _ _ 266 _ _ _ _
  refine tl_v1i (c9 := 11) (k_size l h h t (h 1000000 ((i : Int) + 1).toNat) hI (hj _)) rfl rfl rfl rfl rfl (Nat.le_of_ble_eq_true rfl) (fun z1 h1 p1 => ?_)
  obtain ⟨q1, p1⟩ := p1
  have q1 := q1.symm
  subst q1
  show jT _ _ 269 _ _ _ _
  refine tl_aload_n rfl rfl ?_
  refine tl_aload_n rfl rfl ?_
  refine tl_iload_n rfl rfl ?_
  refine tl_iconst rfl ?_
  refine tl_iadd rfl ?_
  refine tl_iald_sc rfl (by omega) (by omega) (hn) ?_
  show jT _ _ 275 _ _ _ _
  refine tl_v1i (c9 := 12) (r_size l h (h 1000000 ((i : Int) + 1).toNat) (hj _)) rfl rfl rfl rfl rfl (Nat.le_of_ble_eq_true rfl) (fun z2 h2 p2 => ?_)
  obtain ⟨q2, p2⟩ := p2
  have g := G_rd hI (show h2 = Tz h from q2)
  have ez : z2 = z1 := by rw [p1, p2]
  rw [ez]
  exact tl_icmp_same (tgt := 1679) rfl rfl (hx h2 g.1 g.2.1 g.2.2)
set_option maxRecDepth 20000 in
set_option maxHeartbeats 1000000 in
theorem lc_byteOf (l : Launch) (h : jH) (t : Int) (i : Nat) (hI : IC h h t) (hj : ∀ q, jr (h 1000000 q)) (hi6 : (i : Int) + 6 ≤ h 1000001 0) (hn : h 1000001 0 ≤ 3072) (P : Option Value → jH → Prop) (hx : ∀ h2, IC h2 h2 (t + 1) → h2 1000000 = h 1000000 → h2 1000001 = h 1000001 → jT l 359 1679 [some (.ref 1000000), some (.ref 0), some (.ref 388), some (.int (jI (i : Int)))] [] h2 P) : jT l 359 283 [some (.ref 1000000), some (.ref 0), some (.ref 388), some (.int (jI (i : Int)))] [] h P := by
  have hi9 := hi6
  refine tl_aload_n rfl rfl ?_
  refine tl_aload_n rfl rfl ?_
  refine tl_iload_n rfl rfl ?_
  refine tl_iconst rfl ?_
  refine tl_iadd rfl ?_
  refine tl_iald_sc rfl (by omega) (by omega) hn ?_
  refine tl_aload_n rfl rfl ?_
  refine tl_iload_n rfl rfl ?_
  refine tl_iconst rfl ?_
  refine tl_iadd rfl ?_
  refine tl_iald_sc rfl (by omega) (by omega) hn ?_
  show jT _ _ 294 _ _ _ _
  refine tl_v2i (c9 := 11) (k_byteOf l h (Tz h) t (h 1000000 ((i : Int) + 1).toNat) (h 1000000 ((i : Int) + 2).toNat) hI.z (hj _) (hj _)) rfl rfl rfl rfl rfl (Nat.le_of_ble_eq_true rfl) (fun z1 h1 p1 => ?_)
  obtain ⟨q1, p1⟩ := p1
  have q1 := q1.symm
  subst q1
  show jT _ _ 297 _ _ _ _
  refine tl_aload_n rfl rfl ?_
  refine tl_aload_n rfl rfl ?_
  refine tl_iload_n rfl rfl ?_
  refine tl_iconst rfl ?_
  refine tl_iadd rfl ?_
  refine tl_iald_sc rfl (by omega) (by omega) (hn) ?_
  refine tl_aload_n rfl rfl ?_
  refine tl_iload_n rfl rfl ?_
  refine tl_iconst rfl ?_
  refine tl_iadd rfl ?_
  refine tl_iald_sc rfl (by omega) (by omega) (hn) ?_
  show jT _ _ 308 _ _ _ _
  refine tl_v2i (c9 := 12) (r_byteOf l h h t (h 1000000 ((i : Int) + 1).toNat) (h 1000000 ((i : Int) + 2).toNat) hI (hj _) (hj _)) rfl rfl rfl rfl rfl (Nat.le_of_ble_eq_true rfl) (fun z2 h2 p2 => ?_)
  obtain ⟨q2, p2⟩ := p2
  have g := G_rd hI q2
  have ez : z2 = z1 := by rw [p1, p2]
  rw [ez]
  exact tl_icmp_same (tgt := 1679) rfl rfl (hx h2 g.1 g.2.1 g.2.2)
set_option maxRecDepth 20000 in
set_option maxHeartbeats 1000000 in
theorem lc_length (l : Launch) (h : jH) (t : Int) (i : Nat) (hI : IC h h t) (hj : ∀ q, jr (h 1000000 q)) (hi6 : (i : Int) + 6 ≤ h 1000001 0) (hn : h 1000001 0 ≤ 3072) (P : Option Value → jH → Prop) (hx : ∀ h2, IC h2 h2 (t + 1) → h2 1000000 = h 1000000 → h2 1000001 = h 1000001 → jT l 359 1679 [some (.ref 1000000), some (.ref 0), some (.ref 388), some (.int (jI (i : Int)))] [] h2 P) : jT l 359 316 [some (.ref 1000000), some (.ref 0), some (.ref 388), some (.int (jI (i : Int)))] [] h P := by
  have hi9 := hi6
  refine tl_aload_n rfl rfl ?_
  refine tl_aload_n rfl rfl ?_
  refine tl_iload_n rfl rfl ?_
  refine tl_iconst rfl ?_
  refine tl_iadd rfl ?_
  refine tl_iald_sc rfl (by omega) (by omega) hn ?_
  show jT _ _ 322 _ _ _ _
  refine tl_v1i (c9 := 11) (k_length l h (Tz h) t (h 1000000 ((i : Int) + 1).toNat) hI.z (hj _)) rfl rfl rfl rfl rfl (Nat.le_of_ble_eq_true rfl) (fun z1 h1 p1 => ?_)
  obtain ⟨q1, p1⟩ := p1
  have q1 := q1.symm
  subst q1
  show jT _ _ 325 _ _ _ _
  refine tl_aload_n rfl rfl ?_
  refine tl_aload_n rfl rfl ?_
  refine tl_iload_n rfl rfl ?_
  refine tl_iconst rfl ?_
  refine tl_iadd rfl ?_
  refine tl_iald_sc rfl (by omega) (by omega) (hn) ?_
  show jT _ _ 331 _ _ _ _
  refine tl_v1i (c9 := 12) (r_length l h h t (h 1000000 ((i : Int) + 1).toNat) hI (hj _)) rfl rfl rfl rfl rfl (Nat.le_of_ble_eq_true rfl) (fun z2 h2 p2 => ?_)
  obtain ⟨q2, p2⟩ := p2
  have g := G_rd hI q2
  have ez : z2 = z1 := by rw [p1, p2]
  rw [ez]
  exact tl_icmp_same (tgt := 1679) rfl rfl (hx h2 g.1 g.2.1 g.2.2)
set_option maxRecDepth 20000 in
set_option maxHeartbeats 1000000 in
theorem lc_patch (l : Launch) (h : jH) (t : Int) (i : Nat) (hI : IC h h t) (hj : ∀ q, jr (h 1000000 q)) (hi6 : (i : Int) + 6 ≤ h 1000001 0) (hn : h 1000001 0 ≤ 3072) (P : Option Value → jH → Prop) (hx : ∀ h2, IC h2 h2 (t + 1) → h2 1000000 = h 1000000 → h2 1000001 = h 1000001 → jT l 359 1679 [some (.ref 1000000), some (.ref 0), some (.ref 388), some (.int (jI (i : Int)))] [] h2 P) : jT l 359 339 [some (.ref 1000000), some (.ref 0), some (.ref 388), some (.int (jI (i : Int)))] [] h P := by
  have hi9 := hi6
  refine tl_aload_n rfl rfl ?_
  refine tl_aload_n rfl rfl ?_
  refine tl_iload_n rfl rfl ?_
  refine tl_iconst rfl ?_
  refine tl_iadd rfl ?_
  refine tl_iald_sc rfl (by omega) (by omega) hn ?_
  refine tl_aload_n rfl rfl ?_
  refine tl_iload_n rfl rfl ?_
  refine tl_iconst rfl ?_
  refine tl_iadd rfl ?_
  refine tl_iald_sc rfl (by omega) (by omega) hn ?_
  show jT _ _ 350 _ _ _ _
  refine tl_v2i (c9 := 11) (k_patch l h (Tz h) t (h 1000000 ((i : Int) + 1).toNat) (h 1000000 ((i : Int) + 2).toNat) hI.z (hj _) (hj _)) rfl rfl rfl rfl rfl (Nat.le_of_ble_eq_true rfl) (fun z1 h1 p1 => ?_)
  obtain ⟨q1, p1⟩ := p1
  have q1 := q1.symm
  subst q1
  show jT _ _ 353 _ _ _ _
  refine tl_aload_n rfl rfl ?_
  refine tl_aload_n rfl rfl ?_
  refine tl_iload_n rfl rfl ?_
  refine tl_iconst rfl ?_
  refine tl_iadd rfl ?_
  refine tl_iald_sc rfl (by omega) (by omega) (hn) ?_
  refine tl_aload_n rfl rfl ?_
  refine tl_iload_n rfl rfl ?_
  refine tl_iconst rfl ?_
  refine tl_iadd rfl ?_
  refine tl_iald_sc rfl (by omega) (by omega) (hn) ?_
  show jT _ _ 364 _ _ _ _
  refine tl_v2i (c9 := 12) (r_patch l h h t (h 1000000 ((i : Int) + 1).toNat) (h 1000000 ((i : Int) + 2).toNat) hI (hj _) (hj _)) rfl rfl rfl rfl rfl (Nat.le_of_ble_eq_true rfl) (fun z2 h2 p2 => ?_)
  obtain ⟨q2, p2⟩ := p2
  have g := G_rd hI q2
  have ez : z2 = z1 := by rw [p1, p2]
  rw [ez]
  exact tl_icmp_same (tgt := 1679) rfl rfl (hx h2 g.1 g.2.1 g.2.2)
set_option maxRecDepth 20000 in
set_option maxHeartbeats 1000000 in
theorem lc_terms (l : Launch) (h : jH) (t : Int) (i : Nat) (hI : IC h h t) (hj : ∀ q, jr (h 1000000 q)) (hi6 : (i : Int) + 6 ≤ h 1000001 0) (hn : h 1000001 0 ≤ 3072) (P : Option Value → jH → Prop) (hx : ∀ h2, IC h2 h2 (t + 1) → h2 1000000 = h 1000000 → h2 1000001 = h 1000001 → jT l 359 1679 [some (.ref 1000000), some (.ref 0), some (.ref 388), some (.int (jI (i : Int)))] [] h2 P) : jT l 359 372 [some (.ref 1000000), some (.ref 0), some (.ref 388), some (.int (jI (i : Int)))] [] h P := by
  have hi9 := hi6
  refine tl_aload_n rfl rfl ?_
  refine tl_aload_n rfl rfl ?_
  refine tl_iload_n rfl rfl ?_
  refine tl_iconst rfl ?_
  refine tl_iadd rfl ?_
  refine tl_iald_sc rfl (by omega) (by omega) hn ?_
  refine tl_aload_n rfl rfl ?_
  refine tl_iload_n rfl rfl ?_
  refine tl_iconst rfl ?_
  refine tl_iadd rfl ?_
  refine tl_iald_sc rfl (by omega) (by omega) hn ?_
  show jT _ _ 383 _ _ _ _
  refine tl_v2i (c9 := 11) (k_terms l h (Tz h) t (h 1000000 ((i : Int) + 1).toNat) (h 1000000 ((i : Int) + 2).toNat) hI.z (hj _) (hj _)) rfl rfl rfl rfl rfl (Nat.le_of_ble_eq_true rfl) (fun z1 h1 p1 => ?_)
  have x1 : ∀ x, 388 ≤ x → h1 x = h x := p1.2.2
  have e1 : h1 1000000 = h 1000000 := x1 1000000 (by decide)
  have e2 : h1 1000001 = h 1000001 := x1 1000001 (by decide)
  show jT _ _ 386 _ _ _ _
  refine tl_aload_n rfl rfl ?_
  refine tl_aload_n rfl rfl ?_
  refine tl_iload_n rfl rfl ?_
  refine tl_iconst rfl ?_
  refine tl_iadd rfl ?_
  refine tl_iald_sc rfl (by omega) (by rw [e2]; omega) (by rw [e2]; exact hn) ?_
  rw [e1]
  refine tl_aload_n rfl rfl ?_
  refine tl_iload_n rfl rfl ?_
  refine tl_iconst rfl ?_
  refine tl_iadd rfl ?_
  refine tl_iald_sc rfl (by omega) (by rw [e2]; omega) (by rw [e2]; exact hn) ?_
  rw [e1]
  show jT _ _ 397 _ _ _ _
  refine tl_v2i (c9 := 12) (r_terms l h h1 t (h 1000000 ((i : Int) + 1).toNat) (h 1000000 ((i : Int) + 2).toNat) (hI.ag (fun _ _ => rfl) (fun x hx9 => x1 x hx9)) (hj _) (hj _)) rfl rfl rfl rfl rfl (Nat.le_of_ble_eq_true rfl) (fun z2 h2 p2 => ?_)
  have g := G_kr (h := h) (h1 := h1) (h2 := h2) (t := t) (z1 := z1) (z2 := z2) (D := fun s => (Aterms s (h 1000000 ((i : Int) + 1).toNat) (h 1000000 ((i : Int) + 2).toNat), Tterms s (h 1000000 ((i : Int) + 1).toNat) (h 1000000 ((i : Int) + 2).toNat))) (fun s s' a => AgD.terms a (h 1000000 ((i : Int) + 1).toNat) (h 1000000 ((i : Int) + 2).toNat)) (fun s => Kq.terms) p1 (PR.f9 p2)
  rw [g.1]
  exact tl_icmp_same (tgt := 1679) rfl rfl (hx h2 g.2.1 g.2.2.1 g.2.2.2)
set_option maxRecDepth 20000 in
set_option maxHeartbeats 1000000 in
theorem lc_feed (l : Launch) (h : jH) (t : Int) (i : Nat) (hI : IC h h t) (hj : ∀ q, jr (h 1000000 q)) (hi6 : (i : Int) + 6 ≤ h 1000001 0) (hn : h 1000001 0 ≤ 3072) (P : Option Value → jH → Prop) (hx : ∀ h2, IC h2 h2 (t + 1) → h2 1000000 = h 1000000 → h2 1000001 = h 1000001 → jT l 359 1679 [some (.ref 1000000), some (.ref 0), some (.ref 388), some (.int (jI (i : Int)))] [] h2 P) : jT l 359 405 [some (.ref 1000000), some (.ref 0), some (.ref 388), some (.int (jI (i : Int)))] [] h P := by
  have hi9 := hi6
  refine tl_aload_n rfl rfl ?_
  refine tl_aload_n rfl rfl ?_
  refine tl_iload_n rfl rfl ?_
  refine tl_iconst rfl ?_
  refine tl_iadd rfl ?_
  refine tl_iald_sc rfl (by omega) (by omega) hn ?_
  refine tl_aload_n rfl rfl ?_
  refine tl_iload_n rfl rfl ?_
  refine tl_iconst rfl ?_
  refine tl_iadd rfl ?_
  refine tl_iald_sc rfl (by omega) (by omega) hn ?_
  refine tl_aload_n rfl rfl ?_
  refine tl_iload_n rfl rfl ?_
  refine tl_iconst rfl ?_
  refine tl_iadd rfl ?_
  refine tl_iald_sc rfl (by omega) (by omega) hn ?_
  refine tl_aload_n rfl rfl ?_
  refine tl_iload_n rfl rfl ?_
  refine tl_iconst rfl ?_
  refine tl_iadd rfl ?_
  refine tl_iald_sc rfl (by omega) (by omega) hn ?_
  refine tl_aload_n rfl rfl ?_
  refine tl_iload_n rfl rfl ?_
  refine tl_iconst rfl ?_
  refine tl_iadd rfl ?_
  refine tl_iald_sc rfl (by omega) (by omega) hn ?_
  show jT _ _ 431 _ _ _ _
  refine tl_v5i (c9 := 11) (k_feed l h (Tz h) t (h 1000000 ((i : Int) + 1).toNat) (h 1000000 ((i : Int) + 2).toNat) (h 1000000 ((i : Int) + 3).toNat) (h 1000000 ((i : Int) + 4).toNat) (h 1000000 ((i : Int) + 5).toNat) hI.z (hj _) (hj _) (hj _) (hj _) (hj _)) rfl rfl rfl rfl rfl (Nat.le_of_ble_eq_true rfl) (fun z1 h1 p1 => ?_)
  have x1 : ∀ x, 388 ≤ x → h1 x = h x := p1.2.2
  have e1 : h1 1000000 = h 1000000 := x1 1000000 (by decide)
  have e2 : h1 1000001 = h 1000001 := x1 1000001 (by decide)
  show jT _ _ 434 _ _ _ _
  refine tl_aload_n rfl rfl ?_
  refine tl_aload_n rfl rfl ?_
  refine tl_iload_n rfl rfl ?_
  refine tl_iconst rfl ?_
  refine tl_iadd rfl ?_
  refine tl_iald_sc rfl (by omega) (by rw [e2]; omega) (by rw [e2]; exact hn) ?_
  rw [e1]
  refine tl_aload_n rfl rfl ?_
  refine tl_iload_n rfl rfl ?_
  refine tl_iconst rfl ?_
  refine tl_iadd rfl ?_
  refine tl_iald_sc rfl (by omega) (by rw [e2]; omega) (by rw [e2]; exact hn) ?_
  rw [e1]
  refine tl_aload_n rfl rfl ?_
  refine tl_iload_n rfl rfl ?_
  refine tl_iconst rfl ?_
  refine tl_iadd rfl ?_
  refine tl_iald_sc rfl (by omega) (by rw [e2]; omega) (by rw [e2]; exact hn) ?_
  rw [e1]
  refine tl_aload_n rfl rfl ?_
  refine tl_iload_n rfl rfl ?_
  refine tl_iconst rfl ?_
  refine tl_iadd rfl ?_
  refine tl_iald_sc rfl (by omega) (by rw [e2]; omega) (by rw [e2]; exact hn) ?_
  rw [e1]
  refine tl_aload_n rfl rfl ?_
  refine tl_iload_n rfl rfl ?_
  refine tl_iconst rfl ?_
  refine tl_iadd rfl ?_
  refine tl_iald_sc rfl (by omega) (by rw [e2]; omega) (by rw [e2]; exact hn) ?_
  rw [e1]
  show jT _ _ 460 _ _ _ _
  refine tl_v5i (c9 := 12) (r_feed l h h1 t (h 1000000 ((i : Int) + 1).toNat) (h 1000000 ((i : Int) + 2).toNat) (h 1000000 ((i : Int) + 3).toNat) (h 1000000 ((i : Int) + 4).toNat) (h 1000000 ((i : Int) + 5).toNat) (hI.ag (fun _ _ => rfl) (fun x hx9 => x1 x hx9)) (hj _) (hj _) (hj _) (hj _) (hj _)) rfl rfl rfl rfl rfl (Nat.le_of_ble_eq_true rfl) (fun z2 h2 p2 => ?_)
  have g := G_kr (h := h) (h1 := h1) (h2 := h2) (t := t) (z1 := z1) (z2 := z2) (D := fun s => (Afeed s, Tfeed s (h 1000000 ((i : Int) + 1).toNat) (h 1000000 ((i : Int) + 2).toNat) (h 1000000 ((i : Int) + 3).toNat) (h 1000000 ((i : Int) + 4).toNat) (h 1000000 ((i : Int) + 5).toNat))) (fun s s' a => AgD.feed a (h 1000000 ((i : Int) + 1).toNat) (h 1000000 ((i : Int) + 2).toNat) (h 1000000 ((i : Int) + 3).toNat) (h 1000000 ((i : Int) + 4).toNat) (h 1000000 ((i : Int) + 5).toNat)) (fun s => Kq.feed) ⟨p1.1, p1.2.1.mono (by omega), p1.2.2⟩ (PR.f9 p2)
  rw [g.1]
  exact tl_icmp_same (tgt := 1679) rfl rfl (hx h2 g.2.1 g.2.2.1 g.2.2.2)
set_option maxRecDepth 20000 in
set_option maxHeartbeats 1000000 in
theorem lc_end (l : Launch) (h : jH) (t : Int) (i : Nat) (hI : IC h h t) (hj : ∀ q, jr (h 1000000 q)) (hi6 : (i : Int) + 6 ≤ h 1000001 0) (hn : h 1000001 0 ≤ 3072) (P : Option Value → jH → Prop) (hx : ∀ h2, IC h2 h2 (t + 1) → h2 1000000 = h 1000000 → h2 1000001 = h 1000001 → jT l 359 1679 [some (.ref 1000000), some (.ref 0), some (.ref 388), some (.int (jI (i : Int)))] [] h2 P) : jT l 359 468 [some (.ref 1000000), some (.ref 0), some (.ref 388), some (.int (jI (i : Int)))] [] h P := by
  have hi9 := hi6
  refine tl_aload_n rfl rfl ?_
  refine tl_aload_n rfl rfl ?_
  refine tl_iload_n rfl rfl ?_
  refine tl_iconst rfl ?_
  refine tl_iadd rfl ?_
  refine tl_iald_sc rfl (by omega) (by omega) hn ?_
  show jT _ _ 474 _ _ _ _
  refine tl_v1i (c9 := 11) (k_end l h (Tz h) t (h 1000000 ((i : Int) + 1).toNat) hI.z (hj _)) rfl rfl rfl rfl rfl (Nat.le_of_ble_eq_true rfl) (fun z1 h1 p1 => ?_)
  have x1 : ∀ x, 388 ≤ x → h1 x = h x := p1.2.2
  have e1 : h1 1000000 = h 1000000 := x1 1000000 (by decide)
  have e2 : h1 1000001 = h 1000001 := x1 1000001 (by decide)
  show jT _ _ 477 _ _ _ _
  refine tl_aload_n rfl rfl ?_
  refine tl_aload_n rfl rfl ?_
  refine tl_iload_n rfl rfl ?_
  refine tl_iconst rfl ?_
  refine tl_iadd rfl ?_
  refine tl_iald_sc rfl (by omega) (by rw [e2]; omega) (by rw [e2]; exact hn) ?_
  rw [e1]
  show jT _ _ 483 _ _ _ _
  refine tl_v1i (c9 := 12) (r_end l h h1 t (h 1000000 ((i : Int) + 1).toNat) (hI.ag (fun _ _ => rfl) (fun x hx9 => x1 x hx9)) (hj _)) rfl rfl rfl rfl rfl (Nat.le_of_ble_eq_true rfl) (fun z2 h2 p2 => ?_)
  have g := G_kr (h := h) (h1 := h1) (h2 := h2) (t := t) (z1 := z1) (z2 := z2) (D := fun s => (Aend s (h 1000000 ((i : Int) + 1).toNat), Tend s (h 1000000 ((i : Int) + 1).toNat))) (fun s s' a => AgD.tend a (h 1000000 ((i : Int) + 1).toNat)) (fun s => Kq.tend) ⟨p1.1, p1.2.1.mono (by omega), p1.2.2⟩ (PR.f9 p2)
  rw [g.1]
  exact tl_icmp_same (tgt := 1679) rfl rfl (hx h2 g.2.1 g.2.2.1 g.2.2.2)
set_option maxRecDepth 20000 in
set_option maxHeartbeats 1000000 in
theorem lc_file (l : Launch) (h : jH) (t : Int) (i : Nat) (hI : IC h h t) (hj : ∀ q, jr (h 1000000 q)) (hi6 : (i : Int) + 6 ≤ h 1000001 0) (hn : h 1000001 0 ≤ 3072) (P : Option Value → jH → Prop) (hx : ∀ h2, IC h2 h2 (t + 1) → h2 1000000 = h 1000000 → h2 1000001 = h 1000001 → jT l 359 1679 [some (.ref 1000000), some (.ref 0), some (.ref 388), some (.int (jI (i : Int)))] [] h2 P) : jT l 359 491 [some (.ref 1000000), some (.ref 0), some (.ref 388), some (.int (jI (i : Int)))] [] h P := by
  have hi9 := hi6
  refine tl_aload_n rfl rfl ?_
  refine tl_aload_n rfl rfl ?_
  refine tl_iload_n rfl rfl ?_
  refine tl_iconst rfl ?_
  refine tl_iadd rfl ?_
  refine tl_iald_sc rfl (by omega) (by omega) hn ?_
  show jT _ _ 497 _ _ _ _
  refine tl_v1i (c9 := 11) (k_file l h (Tz h) t (h 1000000 ((i : Int) + 1).toNat) hI.z (hj _)) rfl rfl rfl rfl rfl (Nat.le_of_ble_eq_true rfl) (fun z1 h1 p1 => ?_)
  have x1 : ∀ x, 388 ≤ x → h1 x = h x := p1.2.2
  have e1 : h1 1000000 = h 1000000 := x1 1000000 (by decide)
  have e2 : h1 1000001 = h 1000001 := x1 1000001 (by decide)
  show jT _ _ 500 _ _ _ _
  refine tl_aload_n rfl rfl ?_
  refine tl_aload_n rfl rfl ?_
  refine tl_iload_n rfl rfl ?_
  refine tl_iconst rfl ?_
  refine tl_iadd rfl ?_
  refine tl_iald_sc rfl (by omega) (by rw [e2]; omega) (by rw [e2]; exact hn) ?_
  rw [e1]
  show jT _ _ 506 _ _ _ _
  refine tl_v1i (c9 := 12) (r_file l h h1 t (h 1000000 ((i : Int) + 1).toNat) (hI.ag (fun _ _ => rfl) (fun x hx9 => x1 x hx9)) (hj _)) rfl rfl rfl rfl rfl (Nat.le_of_ble_eq_true rfl) (fun z2 h2 p2 => ?_)
  have g := G_kr (h := h) (h1 := h1) (h2 := h2) (t := t) (z1 := z1) (z2 := z2) (D := fun s => Dfile s (h 1000000 ((i : Int) + 1).toNat)) (fun s s' a => Ag.file a (h 1000000 ((i : Int) + 1).toNat)) (fun s => Kq.file) p1 (PR.f9 p2)
  rw [g.1]
  exact tl_icmp_same (tgt := 1679) rfl rfl (hx h2 g.2.1 g.2.2.1 g.2.2.2)
set_option maxRecDepth 20000 in
set_option maxHeartbeats 1000000 in
theorem lc_bring (l : Launch) (h : jH) (t : Int) (i : Nat) (hI : IC h h t) (hj : ∀ q, jr (h 1000000 q)) (hi6 : (i : Int) + 6 ≤ h 1000001 0) (hn : h 1000001 0 ≤ 3072) (P : Option Value → jH → Prop) (hx : ∀ h2, IC h2 h2 (t + 1) → h2 1000000 = h 1000000 → h2 1000001 = h 1000001 → jT l 359 1679 [some (.ref 1000000), some (.ref 0), some (.ref 388), some (.int (jI (i : Int)))] [] h2 P) : jT l 359 514 [some (.ref 1000000), some (.ref 0), some (.ref 388), some (.int (jI (i : Int)))] [] h P := by
  have hi9 := hi6
  refine tl_aload_n rfl rfl ?_
  refine tl_aload_n rfl rfl ?_
  refine tl_iload_n rfl rfl ?_
  refine tl_iconst rfl ?_
  refine tl_iadd rfl ?_
  refine tl_iald_sc rfl (by omega) (by omega) hn ?_
  show jT _ _ 520 _ _ _ _
  refine tl_v1i (c9 := 11) (k_bring l h (Tz h) t (h 1000000 ((i : Int) + 1).toNat) hI.z (hj _)) rfl rfl rfl rfl rfl (Nat.le_of_ble_eq_true rfl) (fun z1 h1 p1 => ?_)
  have x1 : ∀ x, 388 ≤ x → h1 x = h x := p1.2.2
  have e1 : h1 1000000 = h 1000000 := x1 1000000 (by decide)
  have e2 : h1 1000001 = h 1000001 := x1 1000001 (by decide)
  show jT _ _ 523 _ _ _ _
  refine tl_aload_n rfl rfl ?_
  refine tl_aload_n rfl rfl ?_
  refine tl_iload_n rfl rfl ?_
  refine tl_iconst rfl ?_
  refine tl_iadd rfl ?_
  refine tl_iald_sc rfl (by omega) (by rw [e2]; omega) (by rw [e2]; exact hn) ?_
  rw [e1]
  show jT _ _ 529 _ _ _ _
  refine tl_v1i (c9 := 12) (r_bring l h h1 t (h 1000000 ((i : Int) + 1).toNat) (hI.ag (fun _ _ => rfl) (fun x hx9 => x1 x hx9)) (hj _)) rfl rfl rfl rfl rfl (Nat.le_of_ble_eq_true rfl) (fun z2 h2 p2 => ?_)
  have g := G_kr (h := h) (h1 := h1) (h2 := h2) (t := t) (z1 := z1) (z2 := z2) (D := fun s => Dbring s (h 1000000 ((i : Int) + 1).toNat)) (fun s s' a => Ag.bring a (h 1000000 ((i : Int) + 1).toNat)) (fun s => Kq.bring) p1 (PR.f9 p2)
  rw [g.1]
  exact tl_icmp_same (tgt := 1679) rfl rfl (hx h2 g.2.1 g.2.2.1 g.2.2.2)
set_option maxRecDepth 20000 in
set_option maxHeartbeats 1000000 in
theorem lc_bar (l : Launch) (h : jH) (t : Int) (i : Nat) (hI : IC h h t) (hj : ∀ q, jr (h 1000000 q)) (hi6 : (i : Int) + 6 ≤ h 1000001 0) (hn : h 1000001 0 ≤ 3072) (P : Option Value → jH → Prop) (hx : ∀ h2, IC h2 h2 (t + 1) → h2 1000000 = h 1000000 → h2 1000001 = h 1000001 → jT l 359 1679 [some (.ref 1000000), some (.ref 0), some (.ref 388), some (.int (jI (i : Int)))] [] h2 P) : jT l 359 537 [some (.ref 1000000), some (.ref 0), some (.ref 388), some (.int (jI (i : Int)))] [] h P := by
  have hi9 := hi6
  refine tl_aload_n rfl rfl ?_
  refine tl_aload_n rfl rfl ?_
  refine tl_iload_n rfl rfl ?_
  refine tl_iconst rfl ?_
  refine tl_iadd rfl ?_
  refine tl_iald_sc rfl (by omega) (by omega) hn ?_
  refine tl_aload_n rfl rfl ?_
  refine tl_iload_n rfl rfl ?_
  refine tl_iconst rfl ?_
  refine tl_iadd rfl ?_
  refine tl_iald_sc rfl (by omega) (by omega) hn ?_
  show jT _ _ 548 _ _ _ _
  refine tl_v2i (c9 := 11) (k_bar l h (Tz h) t (h 1000000 ((i : Int) + 1).toNat) (h 1000000 ((i : Int) + 2).toNat) hI.z (hj _) (hj _)) rfl rfl rfl rfl rfl (Nat.le_of_ble_eq_true rfl) (fun z1 h1 p1 => ?_)
  have x1 : ∀ x, 388 ≤ x → h1 x = h x := p1.2.2
  have e1 : h1 1000000 = h 1000000 := x1 1000000 (by decide)
  have e2 : h1 1000001 = h 1000001 := x1 1000001 (by decide)
  show jT _ _ 551 _ _ _ _
  refine tl_aload_n rfl rfl ?_
  refine tl_aload_n rfl rfl ?_
  refine tl_iload_n rfl rfl ?_
  refine tl_iconst rfl ?_
  refine tl_iadd rfl ?_
  refine tl_iald_sc rfl (by omega) (by rw [e2]; omega) (by rw [e2]; exact hn) ?_
  rw [e1]
  refine tl_aload_n rfl rfl ?_
  refine tl_iload_n rfl rfl ?_
  refine tl_iconst rfl ?_
  refine tl_iadd rfl ?_
  refine tl_iald_sc rfl (by omega) (by rw [e2]; omega) (by rw [e2]; exact hn) ?_
  rw [e1]
  show jT _ _ 562 _ _ _ _
  refine tl_v2i (c9 := 12) (r_bar l h h1 t (h 1000000 ((i : Int) + 1).toNat) (h 1000000 ((i : Int) + 2).toNat) (hI.ag (fun _ _ => rfl) (fun x hx9 => x1 x hx9)) (hj _) (hj _)) rfl rfl rfl rfl rfl (Nat.le_of_ble_eq_true rfl) (fun z2 h2 p2 => ?_)
  have g := G_kr (h := h) (h1 := h1) (h2 := h2) (t := t) (z1 := z1) (z2 := z2) (D := fun s => Dbar s (h 1000000 ((i : Int) + 1).toNat) (h 1000000 ((i : Int) + 2).toNat)) (fun s s' a => Ag.bar a (h 1000000 ((i : Int) + 1).toNat) (h 1000000 ((i : Int) + 2).toNat)) (fun s => Kq.bar) p1 (PR.f9 p2)
  rw [g.1]
  exact tl_icmp_same (tgt := 1679) rfl rfl (hx h2 g.2.1 g.2.2.1 g.2.2.2)
set_option maxRecDepth 20000 in
set_option maxHeartbeats 1000000 in
theorem lc_recipe (l : Launch) (h : jH) (t : Int) (i : Nat) (hI : IC h h t) (hj : ∀ q, jr (h 1000000 q)) (hi6 : (i : Int) + 6 ≤ h 1000001 0) (hn : h 1000001 0 ≤ 3072) (P : Option Value → jH → Prop) (hx : ∀ h2, IC h2 h2 (t + 1) → h2 1000000 = h 1000000 → h2 1000001 = h 1000001 → jT l 359 1679 [some (.ref 1000000), some (.ref 0), some (.ref 388), some (.int (jI (i : Int)))] [] h2 P) : jT l 359 570 [some (.ref 1000000), some (.ref 0), some (.ref 388), some (.int (jI (i : Int)))] [] h P := by
  have hi9 := hi6
  refine tl_aload_n rfl rfl ?_
  refine tl_aload_n rfl rfl ?_
  refine tl_iload_n rfl rfl ?_
  refine tl_iconst rfl ?_
  refine tl_iadd rfl ?_
  refine tl_iald_sc rfl (by omega) (by omega) hn ?_
  show jT _ _ 576 _ _ _ _
  refine tl_v1i (c9 := 11) (k_recipe l h (Tz h) t (h 1000000 ((i : Int) + 1).toNat) hI.z (hj _)) rfl rfl rfl rfl rfl (Nat.le_of_ble_eq_true rfl) (fun z1 h1 p1 => ?_)
  have x1 : ∀ x, 388 ≤ x → h1 x = h x := p1.2.2
  have e1 : h1 1000000 = h 1000000 := x1 1000000 (by decide)
  have e2 : h1 1000001 = h 1000001 := x1 1000001 (by decide)
  show jT _ _ 579 _ _ _ _
  refine tl_aload_n rfl rfl ?_
  refine tl_aload_n rfl rfl ?_
  refine tl_iload_n rfl rfl ?_
  refine tl_iconst rfl ?_
  refine tl_iadd rfl ?_
  refine tl_iald_sc rfl (by omega) (by rw [e2]; omega) (by rw [e2]; exact hn) ?_
  rw [e1]
  show jT _ _ 585 _ _ _ _
  refine tl_v1i (c9 := 12) (r_recipe l h h1 t (h 1000000 ((i : Int) + 1).toNat) (hI.ag (fun _ _ => rfl) (fun x hx9 => x1 x hx9)) (hj _)) rfl rfl rfl rfl rfl (Nat.le_of_ble_eq_true rfl) (fun z2 h2 p2 => ?_)
  have g := G_kr (h := h) (h1 := h1) (h2 := h2) (t := t) (z1 := z1) (z2 := z2) (D := fun s => Drecipe s (h 1000000 ((i : Int) + 1).toNat)) (fun s s' a => Ag.recipe a (h 1000000 ((i : Int) + 1).toNat)) (fun s => Kq.recipe) p1 p2
  rw [g.1]
  exact tl_icmp_same (tgt := 1679) rfl rfl (hx h2 g.2.1 g.2.2.1 g.2.2.2)
set_option maxRecDepth 20000 in
set_option maxHeartbeats 1000000 in
theorem lc_fault (l : Launch) (h : jH) (t : Int) (i : Nat) (hI : IC h h t) (hj : ∀ q, jr (h 1000000 q)) (hi6 : (i : Int) + 6 ≤ h 1000001 0) (hn : h 1000001 0 ≤ 3072) (P : Option Value → jH → Prop) (hx : ∀ h2, IC h2 h2 (t + 1) → h2 1000000 = h 1000000 → h2 1000001 = h 1000001 → jT l 359 1679 [some (.ref 1000000), some (.ref 0), some (.ref 388), some (.int (jI (i : Int)))] [] h2 P) : jT l 359 593 [some (.ref 1000000), some (.ref 0), some (.ref 388), some (.int (jI (i : Int)))] [] h P := by
  have hi9 := hi6
  refine tl_aload_n rfl rfl ?_
  show jT _ _ 594 _ _ _ _
  refine tl_v0i (c9 := 11) (k_fault l h h t  hI ) rfl rfl rfl rfl rfl (Nat.le_of_ble_eq_true rfl) (fun z1 h1 p1 => ?_)
  obtain ⟨q1, p1⟩ := p1
  have q1 := q1.symm
  subst q1
  show jT _ _ 597 _ _ _ _
  refine tl_aload_n rfl rfl ?_
  show jT _ _ 598 _ _ _ _
  refine tl_v0i (c9 := 12) (r_fault l h  ) rfl rfl rfl rfl rfl (Nat.le_of_ble_eq_true rfl) (fun z2 h2 p2 => ?_)
  obtain ⟨q2, p2⟩ := p2
  have g := G_rd hI (show h2 = Tz h from q2)
  have ez : z2 = z1 := by rw [p1, p2]
  rw [ez]
  exact tl_icmp_same (tgt := 1679) rfl rfl (hx h2 g.1 g.2.1 g.2.2)
set_option maxRecDepth 20000 in
set_option maxHeartbeats 1000000 in
theorem lc_stopped (l : Launch) (h : jH) (t : Int) (i : Nat) (hI : IC h h t) (hj : ∀ q, jr (h 1000000 q)) (hi6 : (i : Int) + 6 ≤ h 1000001 0) (hn : h 1000001 0 ≤ 3072) (P : Option Value → jH → Prop) (hx : ∀ h2, IC h2 h2 (t + 1) → h2 1000000 = h 1000000 → h2 1000001 = h 1000001 → jT l 359 1679 [some (.ref 1000000), some (.ref 0), some (.ref 388), some (.int (jI (i : Int)))] [] h2 P) : jT l 359 606 [some (.ref 1000000), some (.ref 0), some (.ref 388), some (.int (jI (i : Int)))] [] h P := by
  have hi9 := hi6
  refine tl_aload_n rfl rfl ?_
  show jT _ _ 607 _ _ _ _
  refine tl_v0i (c9 := 11) (k_stopped l h h t  hI ) rfl rfl rfl rfl rfl (Nat.le_of_ble_eq_true rfl) (fun z1 h1 p1 => ?_)
  obtain ⟨q1, p1⟩ := p1
  have q1 := q1.symm
  subst q1
  show jT _ _ 610 _ _ _ _
  refine tl_aload_n rfl rfl ?_
  show jT _ _ 611 _ _ _ _
  refine tl_v0i (c9 := 12) (r_stopped l h  ) rfl rfl rfl rfl rfl (Nat.le_of_ble_eq_true rfl) (fun z2 h2 p2 => ?_)
  obtain ⟨q2, p2⟩ := p2
  have g := G_rd hI (show h2 = Tz h from q2)
  have ez : z2 = z1 := by rw [p1, p2]
  rw [ez]
  exact tl_icmp_same (tgt := 1679) rfl rfl (hx h2 g.1 g.2.1 g.2.2)
set_option maxRecDepth 20000 in
set_option maxHeartbeats 1000000 in
theorem lc_set (l : Launch) (h : jH) (t : Int) (i : Nat) (hI : IC h h t) (hj : ∀ q, jr (h 1000000 q)) (hi6 : (i : Int) + 6 ≤ h 1000001 0) (hn : h 1000001 0 ≤ 3072) (P : Option Value → jH → Prop) (hx : ∀ h2, IC h2 h2 (t + 1) → h2 1000000 = h 1000000 → h2 1000001 = h 1000001 → jT l 359 1679 [some (.ref 1000000), some (.ref 0), some (.ref 388), some (.int (jI (i : Int)))] [] h2 P) : jT l 359 619 [some (.ref 1000000), some (.ref 0), some (.ref 388), some (.int (jI (i : Int)))] [] h P := by
  have hi9 := hi6
  refine tl_aload_n rfl rfl ?_
  refine tl_aload_n rfl rfl ?_
  refine tl_iload_n rfl rfl ?_
  refine tl_iconst rfl ?_
  refine tl_iadd rfl ?_
  refine tl_iald_sc rfl (by omega) (by omega) hn ?_
  refine tl_aload_n rfl rfl ?_
  refine tl_iload_n rfl rfl ?_
  refine tl_iconst rfl ?_
  refine tl_iadd rfl ?_
  refine tl_iald_sc rfl (by omega) (by omega) hn ?_
  show jT _ _ 630 _ _ _ _
  refine tl_v2i (c9 := 11) (k_set l h (Tz h) t (h 1000000 ((i : Int) + 1).toNat) (h 1000000 ((i : Int) + 2).toNat) hI.z (hj _) (hj _)) rfl rfl rfl rfl rfl (Nat.le_of_ble_eq_true rfl) (fun z1 h1 p1 => ?_)
  have x1 : ∀ x, 388 ≤ x → h1 x = h x := p1.2.2
  have e1 : h1 1000000 = h 1000000 := x1 1000000 (by decide)
  have e2 : h1 1000001 = h 1000001 := x1 1000001 (by decide)
  show jT _ _ 633 _ _ _ _
  refine tl_aload_n rfl rfl ?_
  refine tl_aload_n rfl rfl ?_
  refine tl_iload_n rfl rfl ?_
  refine tl_iconst rfl ?_
  refine tl_iadd rfl ?_
  refine tl_iald_sc rfl (by omega) (by rw [e2]; omega) (by rw [e2]; exact hn) ?_
  rw [e1]
  refine tl_aload_n rfl rfl ?_
  refine tl_iload_n rfl rfl ?_
  refine tl_iconst rfl ?_
  refine tl_iadd rfl ?_
  refine tl_iald_sc rfl (by omega) (by rw [e2]; omega) (by rw [e2]; exact hn) ?_
  rw [e1]
  show jT _ _ 644 _ _ _ _
  refine tl_v2i (c9 := 12) (r_set l h h1 t (h 1000000 ((i : Int) + 1).toNat) (h 1000000 ((i : Int) + 2).toNat) (hI.ag (fun _ _ => rfl) (fun x hx9 => x1 x hx9)) (hj _) (hj _)) rfl rfl rfl rfl rfl (Nat.le_of_ble_eq_true rfl) (fun z2 h2 p2 => ?_)
  have g := G_kr (h := h) (h1 := h1) (h2 := h2) (t := t) (z1 := z1) (z2 := z2) (D := fun s => Dset s (h 1000000 ((i : Int) + 1).toNat) (h 1000000 ((i : Int) + 2).toNat)) (fun s s' a => Ag.set a (h 1000000 ((i : Int) + 1).toNat) (h 1000000 ((i : Int) + 2).toNat)) (fun s => Kq.set) p1 (PR.f9 p2)
  rw [g.1]
  exact tl_icmp_same (tgt := 1679) rfl rfl (hx h2 g.2.1 g.2.2.1 g.2.2.2)
set_option maxRecDepth 20000 in
set_option maxHeartbeats 1000000 in
theorem lc_cut (l : Launch) (h : jH) (t : Int) (i : Nat) (hI : IC h h t) (hj : ∀ q, jr (h 1000000 q)) (hi6 : (i : Int) + 6 ≤ h 1000001 0) (hn : h 1000001 0 ≤ 3072) (P : Option Value → jH → Prop) (hx : ∀ h2, IC h2 h2 (t + 1) → h2 1000000 = h 1000000 → h2 1000001 = h 1000001 → jT l 359 1679 [some (.ref 1000000), some (.ref 0), some (.ref 388), some (.int (jI (i : Int)))] [] h2 P) : jT l 359 652 [some (.ref 1000000), some (.ref 0), some (.ref 388), some (.int (jI (i : Int)))] [] h P := by
  have hi9 := hi6
  refine tl_aload_n rfl rfl ?_
  refine tl_aload_n rfl rfl ?_
  refine tl_iload_n rfl rfl ?_
  refine tl_iconst rfl ?_
  refine tl_iadd rfl ?_
  refine tl_iald_sc rfl (by omega) (by omega) hn ?_
  refine tl_aload_n rfl rfl ?_
  refine tl_iload_n rfl rfl ?_
  refine tl_iconst rfl ?_
  refine tl_iadd rfl ?_
  refine tl_iald_sc rfl (by omega) (by omega) hn ?_
  show jT _ _ 663 _ _ _ _
  refine tl_v2i (c9 := 11) (k_cut l h (Tz h) t (h 1000000 ((i : Int) + 1).toNat) (h 1000000 ((i : Int) + 2).toNat) hI.z (hj _) (hj _)) rfl rfl rfl rfl rfl (Nat.le_of_ble_eq_true rfl) (fun z1 h1 p1 => ?_)
  have x1 : ∀ x, 388 ≤ x → h1 x = h x := p1.2.2
  have e1 : h1 1000000 = h 1000000 := x1 1000000 (by decide)
  have e2 : h1 1000001 = h 1000001 := x1 1000001 (by decide)
  show jT _ _ 666 _ _ _ _
  refine tl_aload_n rfl rfl ?_
  refine tl_aload_n rfl rfl ?_
  refine tl_iload_n rfl rfl ?_
  refine tl_iconst rfl ?_
  refine tl_iadd rfl ?_
  refine tl_iald_sc rfl (by omega) (by rw [e2]; omega) (by rw [e2]; exact hn) ?_
  rw [e1]
  refine tl_aload_n rfl rfl ?_
  refine tl_iload_n rfl rfl ?_
  refine tl_iconst rfl ?_
  refine tl_iadd rfl ?_
  refine tl_iald_sc rfl (by omega) (by rw [e2]; omega) (by rw [e2]; exact hn) ?_
  rw [e1]
  show jT _ _ 677 _ _ _ _
  refine tl_v2i (c9 := 12) (r_cut l h h1 t (h 1000000 ((i : Int) + 1).toNat) (h 1000000 ((i : Int) + 2).toNat) (hI.ag (fun _ _ => rfl) (fun x hx9 => x1 x hx9)) (hj _) (hj _)) rfl rfl rfl rfl rfl (Nat.le_of_ble_eq_true rfl) (fun z2 h2 p2 => ?_)
  have g := G_kr (h := h) (h1 := h1) (h2 := h2) (t := t) (z1 := z1) (z2 := z2) (D := fun s => Dcut s (h 1000000 ((i : Int) + 1).toNat) (h 1000000 ((i : Int) + 2).toNat)) (fun s s' a => Ag.cut a (h 1000000 ((i : Int) + 1).toNat) (h 1000000 ((i : Int) + 2).toNat)) (fun s => Kq.cut) p1 (PR.f9 p2)
  rw [g.1]
  exact tl_icmp_same (tgt := 1679) rfl rfl (hx h2 g.2.1 g.2.2.1 g.2.2.2)
set_option maxRecDepth 20000 in
set_option maxHeartbeats 1000000 in
theorem lc_put (l : Launch) (h : jH) (t : Int) (i : Nat) (hI : IC h h t) (hj : ∀ q, jr (h 1000000 q)) (hi6 : (i : Int) + 6 ≤ h 1000001 0) (hn : h 1000001 0 ≤ 3072) (P : Option Value → jH → Prop) (hx : ∀ h2, IC h2 h2 (t + 1) → h2 1000000 = h 1000000 → h2 1000001 = h 1000001 → jT l 359 1679 [some (.ref 1000000), some (.ref 0), some (.ref 388), some (.int (jI (i : Int)))] [] h2 P) : jT l 359 685 [some (.ref 1000000), some (.ref 0), some (.ref 388), some (.int (jI (i : Int)))] [] h P := by
  have hi9 := hi6
  refine tl_aload_n rfl rfl ?_
  refine tl_aload_n rfl rfl ?_
  refine tl_iload_n rfl rfl ?_
  refine tl_iconst rfl ?_
  refine tl_iadd rfl ?_
  refine tl_iald_sc rfl (by omega) (by omega) hn ?_
  refine tl_aload_n rfl rfl ?_
  refine tl_iload_n rfl rfl ?_
  refine tl_iconst rfl ?_
  refine tl_iadd rfl ?_
  refine tl_iald_sc rfl (by omega) (by omega) hn ?_
  show jT _ _ 696 _ _ _ _
  refine tl_v2i (c9 := 11) (k_put l h (Tz h) t (h 1000000 ((i : Int) + 1).toNat) (h 1000000 ((i : Int) + 2).toNat) hI.z (hj _) (hj _)) rfl rfl rfl rfl rfl (Nat.le_of_ble_eq_true rfl) (fun z1 h1 p1 => ?_)
  have x1 : ∀ x, 388 ≤ x → h1 x = h x := p1.2.2
  have e1 : h1 1000000 = h 1000000 := x1 1000000 (by decide)
  have e2 : h1 1000001 = h 1000001 := x1 1000001 (by decide)
  show jT _ _ 699 _ _ _ _
  refine tl_aload_n rfl rfl ?_
  refine tl_aload_n rfl rfl ?_
  refine tl_iload_n rfl rfl ?_
  refine tl_iconst rfl ?_
  refine tl_iadd rfl ?_
  refine tl_iald_sc rfl (by omega) (by rw [e2]; omega) (by rw [e2]; exact hn) ?_
  rw [e1]
  refine tl_aload_n rfl rfl ?_
  refine tl_iload_n rfl rfl ?_
  refine tl_iconst rfl ?_
  refine tl_iadd rfl ?_
  refine tl_iald_sc rfl (by omega) (by rw [e2]; omega) (by rw [e2]; exact hn) ?_
  rw [e1]
  show jT _ _ 710 _ _ _ _
  refine tl_v2i (c9 := 12) (r_put l h h1 t (h 1000000 ((i : Int) + 1).toNat) (h 1000000 ((i : Int) + 2).toNat) (hI.ag (fun _ _ => rfl) (fun x hx9 => x1 x hx9)) (hj _) (hj _)) rfl rfl rfl rfl rfl (Nat.le_of_ble_eq_true rfl) (fun z2 h2 p2 => ?_)
  have g := G_kr (h := h) (h1 := h1) (h2 := h2) (t := t) (z1 := z1) (z2 := z2) (D := fun s => Dput s (h 1000000 ((i : Int) + 1).toNat) (h 1000000 ((i : Int) + 2).toNat)) (fun s s' a => Ag.put a (h 1000000 ((i : Int) + 1).toNat) (h 1000000 ((i : Int) + 2).toNat)) (fun s => Kq.put) p1 (PR.f9 p2)
  rw [g.1]
  exact tl_icmp_same (tgt := 1679) rfl rfl (hx h2 g.2.1 g.2.2.1 g.2.2.2)
set_option maxRecDepth 20000 in
set_option maxHeartbeats 1000000 in
theorem lc_move (l : Launch) (h : jH) (t : Int) (i : Nat) (hI : IC h h t) (hj : ∀ q, jr (h 1000000 q)) (hi6 : (i : Int) + 6 ≤ h 1000001 0) (hn : h 1000001 0 ≤ 3072) (P : Option Value → jH → Prop) (hx : ∀ h2, IC h2 h2 (t + 1) → h2 1000000 = h 1000000 → h2 1000001 = h 1000001 → jT l 359 1679 [some (.ref 1000000), some (.ref 0), some (.ref 388), some (.int (jI (i : Int)))] [] h2 P) : jT l 359 718 [some (.ref 1000000), some (.ref 0), some (.ref 388), some (.int (jI (i : Int)))] [] h P := by
  have hi9 := hi6
  refine tl_aload_n rfl rfl ?_
  refine tl_aload_n rfl rfl ?_
  refine tl_iload_n rfl rfl ?_
  refine tl_iconst rfl ?_
  refine tl_iadd rfl ?_
  refine tl_iald_sc rfl (by omega) (by omega) hn ?_
  refine tl_aload_n rfl rfl ?_
  refine tl_iload_n rfl rfl ?_
  refine tl_iconst rfl ?_
  refine tl_iadd rfl ?_
  refine tl_iald_sc rfl (by omega) (by omega) hn ?_
  refine tl_aload_n rfl rfl ?_
  refine tl_iload_n rfl rfl ?_
  refine tl_iconst rfl ?_
  refine tl_iadd rfl ?_
  refine tl_iald_sc rfl (by omega) (by omega) hn ?_
  show jT _ _ 734 _ _ _ _
  refine tl_v3i (c9 := 11) (k_move l h (Tz h) t (h 1000000 ((i : Int) + 1).toNat) (h 1000000 ((i : Int) + 2).toNat) (h 1000000 ((i : Int) + 3).toNat) hI.z (hj _) (hj _) (hj _)) rfl rfl rfl rfl rfl (Nat.le_of_ble_eq_true rfl) (fun z1 h1 p1 => ?_)
  have x1 : ∀ x, 388 ≤ x → h1 x = h x := p1.2.2
  have e1 : h1 1000000 = h 1000000 := x1 1000000 (by decide)
  have e2 : h1 1000001 = h 1000001 := x1 1000001 (by decide)
  show jT _ _ 737 _ _ _ _
  refine tl_aload_n rfl rfl ?_
  refine tl_aload_n rfl rfl ?_
  refine tl_iload_n rfl rfl ?_
  refine tl_iconst rfl ?_
  refine tl_iadd rfl ?_
  refine tl_iald_sc rfl (by omega) (by rw [e2]; omega) (by rw [e2]; exact hn) ?_
  rw [e1]
  refine tl_aload_n rfl rfl ?_
  refine tl_iload_n rfl rfl ?_
  refine tl_iconst rfl ?_
  refine tl_iadd rfl ?_
  refine tl_iald_sc rfl (by omega) (by rw [e2]; omega) (by rw [e2]; exact hn) ?_
  rw [e1]
  refine tl_aload_n rfl rfl ?_
  refine tl_iload_n rfl rfl ?_
  refine tl_iconst rfl ?_
  refine tl_iadd rfl ?_
  refine tl_iald_sc rfl (by omega) (by rw [e2]; omega) (by rw [e2]; exact hn) ?_
  rw [e1]
  show jT _ _ 753 _ _ _ _
  refine tl_v3i (c9 := 12) (r_move l h h1 t (h 1000000 ((i : Int) + 1).toNat) (h 1000000 ((i : Int) + 2).toNat) (h 1000000 ((i : Int) + 3).toNat) (hI.ag (fun _ _ => rfl) (fun x hx9 => x1 x hx9)) (hj _) (hj _) (hj _)) rfl rfl rfl rfl rfl (Nat.le_of_ble_eq_true rfl) (fun z2 h2 p2 => ?_)
  have g := G_kr (h := h) (h1 := h1) (h2 := h2) (t := t) (z1 := z1) (z2 := z2) (D := fun s => Dmove s (h 1000000 ((i : Int) + 1).toNat) (h 1000000 ((i : Int) + 2).toNat) (h 1000000 ((i : Int) + 3).toNat)) (fun s s' a => Ag.move a (h 1000000 ((i : Int) + 1).toNat) (h 1000000 ((i : Int) + 2).toNat) (h 1000000 ((i : Int) + 3).toNat)) (fun s => Kq.move) p1 p2
  rw [g.1]
  exact tl_icmp_same (tgt := 1679) rfl rfl (hx h2 g.2.1 g.2.2.1 g.2.2.2)
set_option maxRecDepth 20000 in
set_option maxHeartbeats 1000000 in
theorem lc_make (l : Launch) (h : jH) (t : Int) (i : Nat) (hI : IC h h t) (hj : ∀ q, jr (h 1000000 q)) (hi6 : (i : Int) + 6 ≤ h 1000001 0) (hn : h 1000001 0 ≤ 3072) (P : Option Value → jH → Prop) (hx : ∀ h2, IC h2 h2 (t + 1) → h2 1000000 = h 1000000 → h2 1000001 = h 1000001 → jT l 359 1679 [some (.ref 1000000), some (.ref 0), some (.ref 388), some (.int (jI (i : Int)))] [] h2 P) : jT l 359 761 [some (.ref 1000000), some (.ref 0), some (.ref 388), some (.int (jI (i : Int)))] [] h P := by
  have hi9 := hi6
  refine tl_aload_n rfl rfl ?_
  refine tl_aload_n rfl rfl ?_
  refine tl_iload_n rfl rfl ?_
  refine tl_iconst rfl ?_
  refine tl_iadd rfl ?_
  refine tl_iald_sc rfl (by omega) (by omega) hn ?_
  show jT _ _ 767 _ _ _ _
  refine tl_v1i (c9 := 11) (k_make l h (Tz h) t (h 1000000 ((i : Int) + 1).toNat) hI.z (hj _)) rfl rfl rfl rfl rfl (Nat.le_of_ble_eq_true rfl) (fun z1 h1 p1 => ?_)
  have x1 : ∀ x, 388 ≤ x → h1 x = h x := p1.2.2
  have e1 : h1 1000000 = h 1000000 := x1 1000000 (by decide)
  have e2 : h1 1000001 = h 1000001 := x1 1000001 (by decide)
  show jT _ _ 770 _ _ _ _
  refine tl_aload_n rfl rfl ?_
  refine tl_aload_n rfl rfl ?_
  refine tl_iload_n rfl rfl ?_
  refine tl_iconst rfl ?_
  refine tl_iadd rfl ?_
  refine tl_iald_sc rfl (by omega) (by rw [e2]; omega) (by rw [e2]; exact hn) ?_
  rw [e1]
  show jT _ _ 776 _ _ _ _
  refine tl_v1i (c9 := 12) (r_make l h h1 t (h 1000000 ((i : Int) + 1).toNat) (hI.ag (fun _ _ => rfl) (fun x hx9 => x1 x hx9)) (hj _)) rfl rfl rfl rfl rfl (Nat.le_of_ble_eq_true rfl) (fun z2 h2 p2 => ?_)
  have g := G_kr (h := h) (h1 := h1) (h2 := h2) (t := t) (z1 := z1) (z2 := z2) (D := fun s => Dmake s (h 1000000 ((i : Int) + 1).toNat)) (fun s s' a => Ag.make a (h 1000000 ((i : Int) + 1).toNat)) (fun s => Kq.make) p1 p2
  rw [g.1]
  exact tl_icmp_same (tgt := 1679) rfl rfl (hx h2 g.2.1 g.2.2.1 g.2.2.2)
set_option maxRecDepth 20000 in
set_option maxHeartbeats 1000000 in
theorem lc_join (l : Launch) (h : jH) (t : Int) (i : Nat) (hI : IC h h t) (hj : ∀ q, jr (h 1000000 q)) (hi6 : (i : Int) + 6 ≤ h 1000001 0) (hn : h 1000001 0 ≤ 3072) (P : Option Value → jH → Prop) (hx : ∀ h2, IC h2 h2 (t + 1) → h2 1000000 = h 1000000 → h2 1000001 = h 1000001 → jT l 359 1679 [some (.ref 1000000), some (.ref 0), some (.ref 388), some (.int (jI (i : Int)))] [] h2 P) : jT l 359 784 [some (.ref 1000000), some (.ref 0), some (.ref 388), some (.int (jI (i : Int)))] [] h P := by
  have hi9 := hi6
  refine tl_aload_n rfl rfl ?_
  refine tl_aload_n rfl rfl ?_
  refine tl_iload_n rfl rfl ?_
  refine tl_iconst rfl ?_
  refine tl_iadd rfl ?_
  refine tl_iald_sc rfl (by omega) (by omega) hn ?_
  refine tl_aload_n rfl rfl ?_
  refine tl_iload_n rfl rfl ?_
  refine tl_iconst rfl ?_
  refine tl_iadd rfl ?_
  refine tl_iald_sc rfl (by omega) (by omega) hn ?_
  refine tl_aload_n rfl rfl ?_
  refine tl_iload_n rfl rfl ?_
  refine tl_iconst rfl ?_
  refine tl_iadd rfl ?_
  refine tl_iald_sc rfl (by omega) (by omega) hn ?_
  show jT _ _ 800 _ _ _ _
  refine tl_v3i (c9 := 11) (k_join l h (Tz h) t (h 1000000 ((i : Int) + 1).toNat) (h 1000000 ((i : Int) + 2).toNat) (h 1000000 ((i : Int) + 3).toNat) hI.z (hj _) (hj _) (hj _)) rfl rfl rfl rfl rfl (Nat.le_of_ble_eq_true rfl) (fun z1 h1 p1 => ?_)
  have x1 : ∀ x, 388 ≤ x → h1 x = h x := p1.2.2
  have e1 : h1 1000000 = h 1000000 := x1 1000000 (by decide)
  have e2 : h1 1000001 = h 1000001 := x1 1000001 (by decide)
  show jT _ _ 803 _ _ _ _
  refine tl_aload_n rfl rfl ?_
  refine tl_aload_n rfl rfl ?_
  refine tl_iload_n rfl rfl ?_
  refine tl_iconst rfl ?_
  refine tl_iadd rfl ?_
  refine tl_iald_sc rfl (by omega) (by rw [e2]; omega) (by rw [e2]; exact hn) ?_
  rw [e1]
  refine tl_aload_n rfl rfl ?_
  refine tl_iload_n rfl rfl ?_
  refine tl_iconst rfl ?_
  refine tl_iadd rfl ?_
  refine tl_iald_sc rfl (by omega) (by rw [e2]; omega) (by rw [e2]; exact hn) ?_
  rw [e1]
  refine tl_aload_n rfl rfl ?_
  refine tl_iload_n rfl rfl ?_
  refine tl_iconst rfl ?_
  refine tl_iadd rfl ?_
  refine tl_iald_sc rfl (by omega) (by rw [e2]; omega) (by rw [e2]; exact hn) ?_
  rw [e1]
  show jT _ _ 819 _ _ _ _
  refine tl_v3i (c9 := 12) (r_join l h h1 t (h 1000000 ((i : Int) + 1).toNat) (h 1000000 ((i : Int) + 2).toNat) (h 1000000 ((i : Int) + 3).toNat) (hI.ag (fun _ _ => rfl) (fun x hx9 => x1 x hx9)) (hj _) (hj _) (hj _)) rfl rfl rfl rfl rfl (Nat.le_of_ble_eq_true rfl) (fun z2 h2 p2 => ?_)
  have g := G_kr (h := h) (h1 := h1) (h2 := h2) (t := t) (z1 := z1) (z2 := z2) (D := fun s => Djoin s (h 1000000 ((i : Int) + 1).toNat) (h 1000000 ((i : Int) + 2).toNat) (h 1000000 ((i : Int) + 3).toNat)) (fun s s' a => Ag.join a (h 1000000 ((i : Int) + 1).toNat) (h 1000000 ((i : Int) + 2).toNat) (h 1000000 ((i : Int) + 3).toNat)) (fun s => Kq.join) p1 p2
  rw [g.1]
  exact tl_icmp_same (tgt := 1679) rfl rfl (hx h2 g.2.1 g.2.2.1 g.2.2.2)
set_option maxRecDepth 20000 in
set_option maxHeartbeats 1000000 in
theorem lc_turn (l : Launch) (h : jH) (t : Int) (i : Nat) (hI : IC h h t) (hj : ∀ q, jr (h 1000000 q)) (hi6 : (i : Int) + 6 ≤ h 1000001 0) (hn : h 1000001 0 ≤ 3072) (P : Option Value → jH → Prop) (hx : ∀ h2, IC h2 h2 (t + 1) → h2 1000000 = h 1000000 → h2 1000001 = h 1000001 → jT l 359 1679 [some (.ref 1000000), some (.ref 0), some (.ref 388), some (.int (jI (i : Int)))] [] h2 P) : jT l 359 827 [some (.ref 1000000), some (.ref 0), some (.ref 388), some (.int (jI (i : Int)))] [] h P := by
  have hi9 := hi6
  refine tl_aload_n rfl rfl ?_
  refine tl_aload_n rfl rfl ?_
  refine tl_iload_n rfl rfl ?_
  refine tl_iconst rfl ?_
  refine tl_iadd rfl ?_
  refine tl_iald_sc rfl (by omega) (by omega) hn ?_
  refine tl_aload_n rfl rfl ?_
  refine tl_iload_n rfl rfl ?_
  refine tl_iconst rfl ?_
  refine tl_iadd rfl ?_
  refine tl_iald_sc rfl (by omega) (by omega) hn ?_
  show jT _ _ 838 _ _ _ _
  refine tl_v2i (c9 := 11) (k_turn l h (Tz h) t (h 1000000 ((i : Int) + 1).toNat) (h 1000000 ((i : Int) + 2).toNat) hI.z (hj _) (hj _)) rfl rfl rfl rfl rfl (Nat.le_of_ble_eq_true rfl) (fun z1 h1 p1 => ?_)
  have x1 : ∀ x, 388 ≤ x → h1 x = h x := p1.2.2
  have e1 : h1 1000000 = h 1000000 := x1 1000000 (by decide)
  have e2 : h1 1000001 = h 1000001 := x1 1000001 (by decide)
  show jT _ _ 841 _ _ _ _
  refine tl_aload_n rfl rfl ?_
  refine tl_aload_n rfl rfl ?_
  refine tl_iload_n rfl rfl ?_
  refine tl_iconst rfl ?_
  refine tl_iadd rfl ?_
  refine tl_iald_sc rfl (by omega) (by rw [e2]; omega) (by rw [e2]; exact hn) ?_
  rw [e1]
  refine tl_aload_n rfl rfl ?_
  refine tl_iload_n rfl rfl ?_
  refine tl_iconst rfl ?_
  refine tl_iadd rfl ?_
  refine tl_iald_sc rfl (by omega) (by rw [e2]; omega) (by rw [e2]; exact hn) ?_
  rw [e1]
  show jT _ _ 852 _ _ _ _
  refine tl_v2i (c9 := 12) (r_turn l h h1 t (h 1000000 ((i : Int) + 1).toNat) (h 1000000 ((i : Int) + 2).toNat) (hI.ag (fun _ _ => rfl) (fun x hx9 => x1 x hx9)) (hj _) (hj _)) rfl rfl rfl rfl rfl (Nat.le_of_ble_eq_true rfl) (fun z2 h2 p2 => ?_)
  have g := G_kr (h := h) (h1 := h1) (h2 := h2) (t := t) (z1 := z1) (z2 := z2) (D := fun s => Dturn s (h 1000000 ((i : Int) + 1).toNat) (h 1000000 ((i : Int) + 2).toNat)) (fun s s' a => Ag.turn a (h 1000000 ((i : Int) + 1).toNat) (h 1000000 ((i : Int) + 2).toNat)) (fun s => Kq.turn) p1 p2
  rw [g.1]
  exact tl_icmp_same (tgt := 1679) rfl rfl (hx h2 g.2.1 g.2.2.1 g.2.2.2)
set_option maxRecDepth 20000 in
set_option maxHeartbeats 1000000 in
theorem lc_apply (l : Launch) (h : jH) (t : Int) (i : Nat) (hI : IC h h t) (hj : ∀ q, jr (h 1000000 q)) (hi6 : (i : Int) + 6 ≤ h 1000001 0) (hn : h 1000001 0 ≤ 3072) (P : Option Value → jH → Prop) (hx : ∀ h2, IC h2 h2 (t + 1) → h2 1000000 = h 1000000 → h2 1000001 = h 1000001 → jT l 359 1679 [some (.ref 1000000), some (.ref 0), some (.ref 388), some (.int (jI (i : Int)))] [] h2 P) : jT l 359 860 [some (.ref 1000000), some (.ref 0), some (.ref 388), some (.int (jI (i : Int)))] [] h P := by
  have hi9 := hi6
  refine tl_aload_n rfl rfl ?_
  refine tl_aload_n rfl rfl ?_
  refine tl_iload_n rfl rfl ?_
  refine tl_iconst rfl ?_
  refine tl_iadd rfl ?_
  refine tl_iald_sc rfl (by omega) (by omega) hn ?_
  show jT _ _ 866 _ _ _ _
  refine tl_v1i (c9 := 11) (k_apply l h (Tz h) t (h 1000000 ((i : Int) + 1).toNat) hI.z (hj _)) rfl rfl rfl rfl rfl (Nat.le_of_ble_eq_true rfl) (fun z1 h1 p1 => ?_)
  have x1 : ∀ x, 388 ≤ x → h1 x = h x := p1.2.2
  have e1 : h1 1000000 = h 1000000 := x1 1000000 (by decide)
  have e2 : h1 1000001 = h 1000001 := x1 1000001 (by decide)
  show jT _ _ 869 _ _ _ _
  refine tl_aload_n rfl rfl ?_
  refine tl_aload_n rfl rfl ?_
  refine tl_iload_n rfl rfl ?_
  refine tl_iconst rfl ?_
  refine tl_iadd rfl ?_
  refine tl_iald_sc rfl (by omega) (by rw [e2]; omega) (by rw [e2]; exact hn) ?_
  rw [e1]
  show jT _ _ 875 _ _ _ _
  refine tl_v1i (c9 := 12) (r_apply l h h1 t (h 1000000 ((i : Int) + 1).toNat) (hI.ag (fun _ _ => rfl) (fun x hx9 => x1 x hx9)) (hj _)) rfl rfl rfl rfl rfl (Nat.le_of_ble_eq_true rfl) (fun z2 h2 p2 => ?_)
  have g := G_kr (h := h) (h1 := h1) (h2 := h2) (t := t) (z1 := z1) (z2 := z2) (D := fun s => Dapply s (h 1000000 ((i : Int) + 1).toNat)) (fun s s' a => Ag.apply a (h 1000000 ((i : Int) + 1).toNat)) (fun s => Kq.apply) p1 p2
  rw [g.1]
  exact tl_icmp_same (tgt := 1679) rfl rfl (hx h2 g.2.1 g.2.2.1 g.2.2.2)
set_option maxRecDepth 20000 in
set_option maxHeartbeats 1000000 in
theorem lc_flaw (l : Launch) (h : jH) (t : Int) (i : Nat) (hI : IC h h t) (hj : ∀ q, jr (h 1000000 q)) (hi6 : (i : Int) + 6 ≤ h 1000001 0) (hn : h 1000001 0 ≤ 3072) (P : Option Value → jH → Prop) (hx : ∀ h2, IC h2 h2 (t + 1) → h2 1000000 = h 1000000 → h2 1000001 = h 1000001 → jT l 359 1679 [some (.ref 1000000), some (.ref 0), some (.ref 388), some (.int (jI (i : Int)))] [] h2 P) : jT l 359 883 [some (.ref 1000000), some (.ref 0), some (.ref 388), some (.int (jI (i : Int)))] [] h P := by
  have hi9 := hi6
  refine tl_aload_n rfl rfl ?_
  show jT _ _ 884 _ _ _ _
  refine tl_v0i (c9 := 11) (k_flaw l h h t  hI ) rfl rfl rfl rfl rfl (Nat.le_of_ble_eq_true rfl) (fun z1 h1 p1 => ?_)
  obtain ⟨q1, p1⟩ := p1
  have q1 := q1.symm
  subst q1
  show jT _ _ 887 _ _ _ _
  refine tl_aload_n rfl rfl ?_
  show jT _ _ 888 _ _ _ _
  refine tl_v0i (c9 := 12) (r_flaw l h  ) rfl rfl rfl rfl rfl (Nat.le_of_ble_eq_true rfl) (fun z2 h2 p2 => ?_)
  obtain ⟨q2, p2⟩ := p2
  have g := G_rd hI (show h2 = Tz h from q2)
  have ez : z2 = z1 := by rw [p1, p2]
  rw [ez]
  exact tl_icmp_same (tgt := 1679) rfl rfl (hx h2 g.1 g.2.1 g.2.2)
set_option maxRecDepth 20000 in
set_option maxHeartbeats 1000000 in
theorem lc_loaded (l : Launch) (h : jH) (t : Int) (i : Nat) (hI : IC h h t) (hj : ∀ q, jr (h 1000000 q)) (hi6 : (i : Int) + 6 ≤ h 1000001 0) (hn : h 1000001 0 ≤ 3072) (P : Option Value → jH → Prop) (hx : ∀ h2, IC h2 h2 (t + 1) → h2 1000000 = h 1000000 → h2 1000001 = h 1000001 → jT l 359 1679 [some (.ref 1000000), some (.ref 0), some (.ref 388), some (.int (jI (i : Int)))] [] h2 P) : jT l 359 896 [some (.ref 1000000), some (.ref 0), some (.ref 388), some (.int (jI (i : Int)))] [] h P := by
  have hi9 := hi6
  refine tl_aload_n rfl rfl ?_
  refine tl_aload_n rfl rfl ?_
  refine tl_iload_n rfl rfl ?_
  refine tl_iconst rfl ?_
  refine tl_iadd rfl ?_
  refine tl_iald_sc rfl (by omega) (by omega) hn ?_
  show jT _ _ 902 _ _ _ _
  refine tl_v1i (c9 := 11) (k_loaded l h h t (h 1000000 ((i : Int) + 1).toNat) hI (hj _)) rfl rfl rfl rfl rfl (Nat.le_of_ble_eq_true rfl) (fun z1 h1 p1 => ?_)
  obtain ⟨q1, p1⟩ := p1
  have q1 := q1.symm
  subst q1
  show jT _ _ 905 _ _ _ _
  refine tl_aload_n rfl rfl ?_
  refine tl_aload_n rfl rfl ?_
  refine tl_iload_n rfl rfl ?_
  refine tl_iconst rfl ?_
  refine tl_iadd rfl ?_
  refine tl_iald_sc rfl (by omega) (by omega) (hn) ?_
  show jT _ _ 911 _ _ _ _
  refine tl_v1i (c9 := 12) (r_loaded l h (h 1000000 ((i : Int) + 1).toNat) (hj _)) rfl rfl rfl rfl rfl (Nat.le_of_ble_eq_true rfl) (fun z2 h2 p2 => ?_)
  obtain ⟨q2, p2⟩ := p2
  have g := G_rd hI (show h2 = Tz h from q2)
  have ez : z2 = z1 := by rw [p1, p2]
  rw [ez]
  exact tl_icmp_same (tgt := 1679) rfl rfl (hx h2 g.1 g.2.1 g.2.2)
set_option maxRecDepth 20000 in
set_option maxHeartbeats 1000000 in
theorem lc_begin (l : Launch) (h : jH) (t : Int) (i : Nat) (hI : IC h h t) (hj : ∀ q, jr (h 1000000 q)) (hi6 : (i : Int) + 6 ≤ h 1000001 0) (hn : h 1000001 0 ≤ 3072) (P : Option Value → jH → Prop) (hx : ∀ h2, IC h2 h2 (t + 1) → h2 1000000 = h 1000000 → h2 1000001 = h 1000001 → jT l 359 1679 [some (.ref 1000000), some (.ref 0), some (.ref 388), some (.int (jI (i : Int)))] [] h2 P) : jT l 359 919 [some (.ref 1000000), some (.ref 0), some (.ref 388), some (.int (jI (i : Int)))] [] h P := by
  have hi9 := hi6
  refine tl_aload_n rfl rfl ?_
  refine tl_aload_n rfl rfl ?_
  refine tl_iload_n rfl rfl ?_
  refine tl_iconst rfl ?_
  refine tl_iadd rfl ?_
  refine tl_iald_sc rfl (by omega) (by omega) hn ?_
  show jT _ _ 925 _ _ _ _
  refine tl_v1i (c9 := 11) (k_begin l h (Tz h) t (h 1000000 ((i : Int) + 1).toNat) hI.z (hj _)) rfl rfl rfl rfl rfl (Nat.le_of_ble_eq_true rfl) (fun z1 h1 p1 => ?_)
  have x1 : ∀ x, 388 ≤ x → h1 x = h x := p1.2.2
  have e1 : h1 1000000 = h 1000000 := x1 1000000 (by decide)
  have e2 : h1 1000001 = h 1000001 := x1 1000001 (by decide)
  show jT _ _ 928 _ _ _ _
  refine tl_aload_n rfl rfl ?_
  refine tl_aload_n rfl rfl ?_
  refine tl_iload_n rfl rfl ?_
  refine tl_iconst rfl ?_
  refine tl_iadd rfl ?_
  refine tl_iald_sc rfl (by omega) (by rw [e2]; omega) (by rw [e2]; exact hn) ?_
  rw [e1]
  show jT _ _ 934 _ _ _ _
  refine tl_v1i (c9 := 12) (r_begin l h h1 t (h 1000000 ((i : Int) + 1).toNat) (hI.ag (fun _ _ => rfl) (fun x hx9 => x1 x hx9)) (hj _)) rfl rfl rfl rfl rfl (Nat.le_of_ble_eq_true rfl) (fun z2 h2 p2 => ?_)
  have g := G_kr (h := h) (h1 := h1) (h2 := h2) (t := t) (z1 := z1) (z2 := z2) (D := fun s => Dbegin s (h 1000000 ((i : Int) + 1).toNat)) (fun s s' a => Ag.begin a (h 1000000 ((i : Int) + 1).toNat)) (fun s => Kq.begin) p1 p2
  rw [g.1]
  exact tl_icmp_same (tgt := 1679) rfl rfl (hx h2 g.2.1 g.2.2.1 g.2.2.2)
set_option maxRecDepth 20000 in
set_option maxHeartbeats 1000000 in
theorem lc_write (l : Launch) (h : jH) (t : Int) (i : Nat) (hI : IC h h t) (hj : ∀ q, jr (h 1000000 q)) (hi6 : (i : Int) + 6 ≤ h 1000001 0) (hn : h 1000001 0 ≤ 3072) (P : Option Value → jH → Prop) (hx : ∀ h2, IC h2 h2 (t + 1) → h2 1000000 = h 1000000 → h2 1000001 = h 1000001 → jT l 359 1679 [some (.ref 1000000), some (.ref 0), some (.ref 388), some (.int (jI (i : Int)))] [] h2 P) : jT l 359 942 [some (.ref 1000000), some (.ref 0), some (.ref 388), some (.int (jI (i : Int)))] [] h P := by
  have hi9 := hi6
  refine tl_aload_n rfl rfl ?_
  refine tl_aload_n rfl rfl ?_
  refine tl_iload_n rfl rfl ?_
  refine tl_iconst rfl ?_
  refine tl_iadd rfl ?_
  refine tl_iald_sc rfl (by omega) (by omega) hn ?_
  show jT _ _ 948 _ _ _ _
  refine tl_v1i (c9 := 11) (k_write l h (Tz h) t (h 1000000 ((i : Int) + 1).toNat) hI.z (hj _)) rfl rfl rfl rfl rfl (Nat.le_of_ble_eq_true rfl) (fun z1 h1 p1 => ?_)
  have x1 : ∀ x, 388 ≤ x → h1 x = h x := p1.2.2
  have e1 : h1 1000000 = h 1000000 := x1 1000000 (by decide)
  have e2 : h1 1000001 = h 1000001 := x1 1000001 (by decide)
  show jT _ _ 951 _ _ _ _
  refine tl_aload_n rfl rfl ?_
  refine tl_aload_n rfl rfl ?_
  refine tl_iload_n rfl rfl ?_
  refine tl_iconst rfl ?_
  refine tl_iadd rfl ?_
  refine tl_iald_sc rfl (by omega) (by rw [e2]; omega) (by rw [e2]; exact hn) ?_
  rw [e1]
  show jT _ _ 957 _ _ _ _
  refine tl_v1i (c9 := 12) (r_write l h h1 t (h 1000000 ((i : Int) + 1).toNat) (hI.ag (fun _ _ => rfl) (fun x hx9 => x1 x hx9)) (hj _)) rfl rfl rfl rfl rfl (Nat.le_of_ble_eq_true rfl) (fun z2 h2 p2 => ?_)
  have g := G_kr (h := h) (h1 := h1) (h2 := h2) (t := t) (z1 := z1) (z2 := z2) (D := fun s => Dwrite s (h 1000000 ((i : Int) + 1).toNat)) (fun s s' a => Ag.write a (h 1000000 ((i : Int) + 1).toNat)) (fun s => Kq.write) p1 (PR.f9 p2)
  rw [g.1]
  exact tl_icmp_same (tgt := 1679) rfl rfl (hx h2 g.2.1 g.2.2.1 g.2.2.2)
set_option maxRecDepth 20000 in
set_option maxHeartbeats 1000000 in
theorem lc_left (l : Launch) (h : jH) (t : Int) (i : Nat) (hI : IC h h t) (hj : ∀ q, jr (h 1000000 q)) (hi6 : (i : Int) + 6 ≤ h 1000001 0) (hn : h 1000001 0 ≤ 3072) (P : Option Value → jH → Prop) (hx : ∀ h2, IC h2 h2 (t + 1) → h2 1000000 = h 1000000 → h2 1000001 = h 1000001 → jT l 359 1679 [some (.ref 1000000), some (.ref 0), some (.ref 388), some (.int (jI (i : Int)))] [] h2 P) : jT l 359 965 [some (.ref 1000000), some (.ref 0), some (.ref 388), some (.int (jI (i : Int)))] [] h P := by
  have hi9 := hi6
  refine tl_aload_n rfl rfl ?_
  show jT _ _ 966 _ _ _ _
  refine tl_v0i (c9 := 11) (k_left l h h t  hI ) rfl rfl rfl rfl rfl (Nat.le_of_ble_eq_true rfl) (fun z1 h1 p1 => ?_)
  obtain ⟨q1, p1⟩ := p1
  have q1 := q1.symm
  subst q1
  show jT _ _ 969 _ _ _ _
  refine tl_aload_n rfl rfl ?_
  show jT _ _ 970 _ _ _ _
  refine tl_v0i (c9 := 12) (r_left l h   hI.run01) rfl rfl rfl rfl rfl (Nat.le_of_ble_eq_true rfl) (fun z2 h2 p2 => ?_)
  obtain ⟨q2, p2⟩ := p2
  have g := G_rd hI (show h2 = Tz h from q2)
  have ez : z2 = z1 := by rw [p1, p2]
  rw [ez]
  exact tl_icmp_same (tgt := 1679) rfl rfl (hx h2 g.1 g.2.1 g.2.2)
set_option maxRecDepth 20000 in
set_option maxHeartbeats 1000000 in
theorem lc_spoil (l : Launch) (h : jH) (t : Int) (i : Nat) (hI : IC h h t) (hj : ∀ q, jr (h 1000000 q)) (hi6 : (i : Int) + 6 ≤ h 1000001 0) (hn : h 1000001 0 ≤ 3072) (P : Option Value → jH → Prop) (hx : ∀ h2, IC h2 h2 (t + 1) → h2 1000000 = h 1000000 → h2 1000001 = h 1000001 → jT l 359 1679 [some (.ref 1000000), some (.ref 0), some (.ref 388), some (.int (jI (i : Int)))] [] h2 P) : jT l 359 978 [some (.ref 1000000), some (.ref 0), some (.ref 388), some (.int (jI (i : Int)))] [] h P := by
  have hi9 := hi6
  refine tl_aload_n rfl rfl ?_
  refine tl_aload_n rfl rfl ?_
  refine tl_iload_n rfl rfl ?_
  refine tl_iconst rfl ?_
  refine tl_iadd rfl ?_
  refine tl_iald_sc rfl (by omega) (by omega) hn ?_
  refine tl_aload_n rfl rfl ?_
  refine tl_iload_n rfl rfl ?_
  refine tl_iconst rfl ?_
  refine tl_iadd rfl ?_
  refine tl_iald_sc rfl (by omega) (by omega) hn ?_
  refine tl_aload_n rfl rfl ?_
  refine tl_iload_n rfl rfl ?_
  refine tl_iconst rfl ?_
  refine tl_iadd rfl ?_
  refine tl_iald_sc rfl (by omega) (by omega) hn ?_
  show jT _ _ 994 _ _ _ _
  refine tl_v3i (c9 := 11) (k_spoil l h (Tz h) t (h 1000000 ((i : Int) + 1).toNat) (h 1000000 ((i : Int) + 2).toNat) (h 1000000 ((i : Int) + 3).toNat) hI.z (hj _) (hj _) (hj _)) rfl rfl rfl rfl rfl (Nat.le_of_ble_eq_true rfl) (fun z1 h1 p1 => ?_)
  have x1 : ∀ x, 388 ≤ x → h1 x = h x := p1.2.2
  have e1 : h1 1000000 = h 1000000 := x1 1000000 (by decide)
  have e2 : h1 1000001 = h 1000001 := x1 1000001 (by decide)
  show jT _ _ 997 _ _ _ _
  refine tl_aload_n rfl rfl ?_
  refine tl_aload_n rfl rfl ?_
  refine tl_iload_n rfl rfl ?_
  refine tl_iconst rfl ?_
  refine tl_iadd rfl ?_
  refine tl_iald_sc rfl (by omega) (by rw [e2]; omega) (by rw [e2]; exact hn) ?_
  rw [e1]
  refine tl_aload_n rfl rfl ?_
  refine tl_iload_n rfl rfl ?_
  refine tl_iconst rfl ?_
  refine tl_iadd rfl ?_
  refine tl_iald_sc rfl (by omega) (by rw [e2]; omega) (by rw [e2]; exact hn) ?_
  rw [e1]
  refine tl_aload_n rfl rfl ?_
  refine tl_iload_n rfl rfl ?_
  refine tl_iconst rfl ?_
  refine tl_iadd rfl ?_
  refine tl_iald_sc rfl (by omega) (by rw [e2]; omega) (by rw [e2]; exact hn) ?_
  rw [e1]
  show jT _ _ 1013 _ _ _ _
  refine tl_v3i (c9 := 12) (r_spoil l h h1 t (h 1000000 ((i : Int) + 1).toNat) (h 1000000 ((i : Int) + 2).toNat) (h 1000000 ((i : Int) + 3).toNat) (hI.ag (fun _ _ => rfl) (fun x hx9 => x1 x hx9)) (hj _) (hj _) (hj _)) rfl rfl rfl rfl rfl (Nat.le_of_ble_eq_true rfl) (fun z2 h2 p2 => ?_)
  have g := G_kr (h := h) (h1 := h1) (h2 := h2) (t := t) (z1 := z1) (z2 := z2) (D := fun s => Dspoil s (h 1000000 ((i : Int) + 1).toNat) (h 1000000 ((i : Int) + 2).toNat) (h 1000000 ((i : Int) + 3).toNat)) (fun s s' a => Ag.spoil a (h 1000000 ((i : Int) + 1).toNat) (h 1000000 ((i : Int) + 2).toNat) (h 1000000 ((i : Int) + 3).toNat)) (fun s => Kq.spoil) p1 (PR.f9 p2)
  rw [g.1]
  exact tl_icmp_same (tgt := 1679) rfl rfl (hx h2 g.2.1 g.2.2.1 g.2.2.2)
set_option maxRecDepth 20000 in
set_option maxHeartbeats 1000000 in
theorem lc_seal (l : Launch) (h : jH) (t : Int) (i : Nat) (hI : IC h h t) (hj : ∀ q, jr (h 1000000 q)) (hi6 : (i : Int) + 6 ≤ h 1000001 0) (hn : h 1000001 0 ≤ 3072) (P : Option Value → jH → Prop) (hx : ∀ h2, IC h2 h2 (t + 1) → h2 1000000 = h 1000000 → h2 1000001 = h 1000001 → jT l 359 1679 [some (.ref 1000000), some (.ref 0), some (.ref 388), some (.int (jI (i : Int)))] [] h2 P) : jT l 359 1021 [some (.ref 1000000), some (.ref 0), some (.ref 388), some (.int (jI (i : Int)))] [] h P := by
  have hi9 := hi6
  refine tl_aload_n rfl rfl ?_
  refine tl_aload_n rfl rfl ?_
  refine tl_iload_n rfl rfl ?_
  refine tl_iconst rfl ?_
  refine tl_iadd rfl ?_
  refine tl_iald_sc rfl (by omega) (by omega) hn ?_
  show jT _ _ 1027 _ _ _ _
  refine tl_v1i (c9 := 11) (k_seal l h (Tz h) t (h 1000000 ((i : Int) + 1).toNat) hI.z (hj _)) rfl rfl rfl rfl rfl (Nat.le_of_ble_eq_true rfl) (fun z1 h1 p1 => ?_)
  have x1 : ∀ x, 388 ≤ x → h1 x = h x := p1.2.2
  have e1 : h1 1000000 = h 1000000 := x1 1000000 (by decide)
  have e2 : h1 1000001 = h 1000001 := x1 1000001 (by decide)
  show jT _ _ 1030 _ _ _ _
  refine tl_aload_n rfl rfl ?_
  refine tl_aload_n rfl rfl ?_
  refine tl_iload_n rfl rfl ?_
  refine tl_iconst rfl ?_
  refine tl_iadd rfl ?_
  refine tl_iald_sc rfl (by omega) (by rw [e2]; omega) (by rw [e2]; exact hn) ?_
  rw [e1]
  show jT _ _ 1036 _ _ _ _
  refine tl_v1i (c9 := 12) (r_seal l h h1 t (h 1000000 ((i : Int) + 1).toNat) (hI.ag (fun _ _ => rfl) (fun x hx9 => x1 x hx9)) (hj _)) rfl rfl rfl rfl rfl (Nat.le_of_ble_eq_true rfl) (fun z2 h2 p2 => ?_)
  have g := G_kr (h := h) (h1 := h1) (h2 := h2) (t := t) (z1 := z1) (z2 := z2) (D := fun s => Dseal s (h 1000000 ((i : Int) + 1).toNat)) (fun s s' a => Ag.seal a (h 1000000 ((i : Int) + 1).toNat)) (fun s => Kq.seal) p1 (PR.f9 p2)
  rw [g.1]
  exact tl_icmp_same (tgt := 1679) rfl rfl (hx h2 g.2.1 g.2.2.1 g.2.2.2)
set_option maxRecDepth 20000 in
set_option maxHeartbeats 1000000 in
theorem lc_drop (l : Launch) (h : jH) (t : Int) (i : Nat) (hI : IC h h t) (hj : ∀ q, jr (h 1000000 q)) (hi6 : (i : Int) + 6 ≤ h 1000001 0) (hn : h 1000001 0 ≤ 3072) (P : Option Value → jH → Prop) (hx : ∀ h2, IC h2 h2 (t + 1) → h2 1000000 = h 1000000 → h2 1000001 = h 1000001 → jT l 359 1679 [some (.ref 1000000), some (.ref 0), some (.ref 388), some (.int (jI (i : Int)))] [] h2 P) : jT l 359 1044 [some (.ref 1000000), some (.ref 0), some (.ref 388), some (.int (jI (i : Int)))] [] h P := by
  have hi9 := hi6
  refine tl_aload_n rfl rfl ?_
  refine tl_aload_n rfl rfl ?_
  refine tl_iload_n rfl rfl ?_
  refine tl_iconst rfl ?_
  refine tl_iadd rfl ?_
  refine tl_iald_sc rfl (by omega) (by omega) hn ?_
  show jT _ _ 1050 _ _ _ _
  refine tl_v1i (c9 := 11) (k_drop l h (Tz h) t (h 1000000 ((i : Int) + 1).toNat) hI.z (hj _)) rfl rfl rfl rfl rfl (Nat.le_of_ble_eq_true rfl) (fun z1 h1 p1 => ?_)
  have x1 : ∀ x, 388 ≤ x → h1 x = h x := p1.2.2
  have e1 : h1 1000000 = h 1000000 := x1 1000000 (by decide)
  have e2 : h1 1000001 = h 1000001 := x1 1000001 (by decide)
  show jT _ _ 1053 _ _ _ _
  refine tl_aload_n rfl rfl ?_
  refine tl_aload_n rfl rfl ?_
  refine tl_iload_n rfl rfl ?_
  refine tl_iconst rfl ?_
  refine tl_iadd rfl ?_
  refine tl_iald_sc rfl (by omega) (by rw [e2]; omega) (by rw [e2]; exact hn) ?_
  rw [e1]
  show jT _ _ 1059 _ _ _ _
  refine tl_v1i (c9 := 12) (r_drop l h h1 t (h 1000000 ((i : Int) + 1).toNat) (hI.ag (fun _ _ => rfl) (fun x hx9 => x1 x hx9)) (hj _)) rfl rfl rfl rfl rfl (Nat.le_of_ble_eq_true rfl) (fun z2 h2 p2 => ?_)
  have g := G_kr (h := h) (h1 := h1) (h2 := h2) (t := t) (z1 := z1) (z2 := z2) (D := fun s => Ddrop s (h 1000000 ((i : Int) + 1).toNat)) (fun s s' a => Ag.drop a (h 1000000 ((i : Int) + 1).toNat)) (fun s => Kq.drop) p1 (PR.f9 p2)
  rw [g.1]
  exact tl_icmp_same (tgt := 1679) rfl rfl (hx h2 g.2.1 g.2.2.1 g.2.2.2)
set_option maxRecDepth 20000 in
set_option maxHeartbeats 1000000 in
theorem lc_swap (l : Launch) (h : jH) (t : Int) (i : Nat) (hI : IC h h t) (hj : ∀ q, jr (h 1000000 q)) (hi6 : (i : Int) + 6 ≤ h 1000001 0) (hn : h 1000001 0 ≤ 3072) (P : Option Value → jH → Prop) (hx : ∀ h2, IC h2 h2 (t + 1) → h2 1000000 = h 1000000 → h2 1000001 = h 1000001 → jT l 359 1679 [some (.ref 1000000), some (.ref 0), some (.ref 388), some (.int (jI (i : Int)))] [] h2 P) : jT l 359 1067 [some (.ref 1000000), some (.ref 0), some (.ref 388), some (.int (jI (i : Int)))] [] h P := by
  have hi9 := hi6
  refine tl_aload_n rfl rfl ?_
  show jT _ _ 1068 _ _ _ _
  refine tl_v0i (c9 := 11) (k_swap l h (Tz h) t  hI.z ) rfl rfl rfl rfl rfl (Nat.le_of_ble_eq_true rfl) (fun z1 h1 p1 => ?_)
  have x1 : ∀ x, 388 ≤ x → h1 x = h x := p1.2.2
  have e1 : h1 1000000 = h 1000000 := x1 1000000 (by decide)
  have e2 : h1 1000001 = h 1000001 := x1 1000001 (by decide)
  show jT _ _ 1071 _ _ _ _
  refine tl_aload_n rfl rfl ?_
  show jT _ _ 1072 _ _ _ _
  refine tl_v0i (c9 := 12) (r_swap l h h1 t  (hI.ag (fun _ _ => rfl) (fun x hx9 => x1 x hx9)) ) rfl rfl rfl rfl rfl (Nat.le_of_ble_eq_true rfl) (fun z2 h2 p2 => ?_)
  have g := G_kr (h := h) (h1 := h1) (h2 := h2) (t := t) (z1 := z1) (z2 := z2) (D := fun s => Dswap s ) (fun s s' a => Ag.swap a ) (fun s => Kq.swap) p1 (PR.f9 p2)
  rw [g.1]
  exact tl_icmp_same (tgt := 1679) rfl rfl (hx h2 g.2.1 g.2.2.1 g.2.2.2)
set_option maxRecDepth 20000 in
set_option maxHeartbeats 1000000 in
theorem lc_advance (l : Launch) (h : jH) (t : Int) (i : Nat) (hI : IC h h t) (hj : ∀ q, jr (h 1000000 q)) (hi6 : (i : Int) + 6 ≤ h 1000001 0) (hn : h 1000001 0 ≤ 3072) (P : Option Value → jH → Prop) (hx : ∀ h2, IC h2 h2 (t + 1) → h2 1000000 = h 1000000 → h2 1000001 = h 1000001 → jT l 359 1679 [some (.ref 1000000), some (.ref 0), some (.ref 388), some (.int (jI (i : Int)))] [] h2 P) : jT l 359 1080 [some (.ref 1000000), some (.ref 0), some (.ref 388), some (.int (jI (i : Int)))] [] h P := by
  have hi9 := hi6
  refine tl_aload_n rfl rfl ?_
  show jT _ _ 1081 _ _ _ _
  refine tl_v0i (c9 := 11) (k_advance l h (Tz h) t  hI.z ) rfl rfl rfl rfl rfl (Nat.le_of_ble_eq_true rfl) (fun z1 h1 p1 => ?_)
  have x1 : ∀ x, 388 ≤ x → h1 x = h x := p1.2.2
  have e1 : h1 1000000 = h 1000000 := x1 1000000 (by decide)
  have e2 : h1 1000001 = h 1000001 := x1 1000001 (by decide)
  show jT _ _ 1084 _ _ _ _
  refine tl_aload_n rfl rfl ?_
  show jT _ _ 1085 _ _ _ _
  refine tl_v0i (c9 := 12) (r_advance l h h1 t  (hI.ag (fun _ _ => rfl) (fun x hx9 => x1 x hx9)) ) rfl rfl rfl rfl rfl (Nat.le_of_ble_eq_true rfl) (fun z2 h2 p2 => ?_)
  have g := G_kr (h := h) (h1 := h1) (h2 := h2) (t := t) (z1 := z1) (z2 := z2) (D := fun s => Dadv s ) (fun s s' a => Ag.adv a ) (fun s => Kq.adv) p1 (PR.f9 p2)
  rw [g.1]
  exact tl_icmp_same (tgt := 1679) rfl rfl (hx h2 g.2.1 g.2.2.1 g.2.2.2)
set_option maxRecDepth 20000 in
set_option maxHeartbeats 1000000 in
theorem lc_undo (l : Launch) (h : jH) (t : Int) (i : Nat) (hI : IC h h t) (hj : ∀ q, jr (h 1000000 q)) (hi6 : (i : Int) + 6 ≤ h 1000001 0) (hn : h 1000001 0 ≤ 3072) (P : Option Value → jH → Prop) (hx : ∀ h2, IC h2 h2 (t + 1) → h2 1000000 = h 1000000 → h2 1000001 = h 1000001 → jT l 359 1679 [some (.ref 1000000), some (.ref 0), some (.ref 388), some (.int (jI (i : Int)))] [] h2 P) : jT l 359 1093 [some (.ref 1000000), some (.ref 0), some (.ref 388), some (.int (jI (i : Int)))] [] h P := by
  have hi9 := hi6
  refine tl_aload_n rfl rfl ?_
  show jT _ _ 1094 _ _ _ _
  refine tl_v0i (c9 := 11) (k_undo l h (Tz h) t  hI.z ) rfl rfl rfl rfl rfl (Nat.le_of_ble_eq_true rfl) (fun z1 h1 p1 => ?_)
  have x1 : ∀ x, 388 ≤ x → h1 x = h x := p1.2.2
  have e1 : h1 1000000 = h 1000000 := x1 1000000 (by decide)
  have e2 : h1 1000001 = h 1000001 := x1 1000001 (by decide)
  show jT _ _ 1097 _ _ _ _
  refine tl_aload_n rfl rfl ?_
  show jT _ _ 1098 _ _ _ _
  refine tl_v0i (c9 := 12) (r_undo l h h1 t  (hI.ag (fun _ _ => rfl) (fun x hx9 => x1 x hx9)) ) rfl rfl rfl rfl rfl (Nat.le_of_ble_eq_true rfl) (fun z2 h2 p2 => ?_)
  have g := G_kr (h := h) (h1 := h1) (h2 := h2) (t := t) (z1 := z1) (z2 := z2) (D := fun s => Dundo s ) (fun s s' a => Ag.undo a ) (fun s => Kq.undo) p1 (PR.f9 p2)
  rw [g.1]
  exact tl_icmp_same (tgt := 1679) rfl rfl (hx h2 g.2.1 g.2.2.1 g.2.2.2)
set_option maxRecDepth 20000 in
set_option maxHeartbeats 1000000 in
theorem lc_sorted (l : Launch) (h : jH) (t : Int) (i : Nat) (hI : IC h h t) (hj : ∀ q, jr (h 1000000 q)) (hi6 : (i : Int) + 6 ≤ h 1000001 0) (hn : h 1000001 0 ≤ 3072) (P : Option Value → jH → Prop) (hx : ∀ h2, IC h2 h2 (t + 1) → h2 1000000 = h 1000000 → h2 1000001 = h 1000001 → jT l 359 1679 [some (.ref 1000000), some (.ref 0), some (.ref 388), some (.int (jI (i : Int)))] [] h2 P) : jT l 359 1106 [some (.ref 1000000), some (.ref 0), some (.ref 388), some (.int (jI (i : Int)))] [] h P := by
  have hi9 := hi6
  refine tl_aload_n rfl rfl ?_
  refine tl_aload_n rfl rfl ?_
  refine tl_iload_n rfl rfl ?_
  refine tl_iconst rfl ?_
  refine tl_iadd rfl ?_
  refine tl_iald_sc rfl (by omega) (by omega) hn ?_
  refine tl_aload_n rfl rfl ?_
  refine tl_iload_n rfl rfl ?_
  refine tl_iconst rfl ?_
  refine tl_iadd rfl ?_
  refine tl_iald_sc rfl (by omega) (by omega) hn ?_
  show jT _ _ 1117 _ _ _ _
  refine tl_v2i (c9 := 11) (k_sorted l h (Tz h) t (h 1000000 ((i : Int) + 1).toNat) (h 1000000 ((i : Int) + 2).toNat) hI.z (hj _) (hj _)) rfl rfl rfl rfl rfl (Nat.le_of_ble_eq_true rfl) (fun z1 h1 p1 => ?_)
  have x1 : ∀ x, 388 ≤ x → h1 x = h x := p1.2.2
  have e1 : h1 1000000 = h 1000000 := x1 1000000 (by decide)
  have e2 : h1 1000001 = h 1000001 := x1 1000001 (by decide)
  show jT _ _ 1120 _ _ _ _
  refine tl_aload_n rfl rfl ?_
  refine tl_aload_n rfl rfl ?_
  refine tl_iload_n rfl rfl ?_
  refine tl_iconst rfl ?_
  refine tl_iadd rfl ?_
  refine tl_iald_sc rfl (by omega) (by rw [e2]; omega) (by rw [e2]; exact hn) ?_
  rw [e1]
  refine tl_aload_n rfl rfl ?_
  refine tl_iload_n rfl rfl ?_
  refine tl_iconst rfl ?_
  refine tl_iadd rfl ?_
  refine tl_iald_sc rfl (by omega) (by rw [e2]; omega) (by rw [e2]; exact hn) ?_
  rw [e1]
  show jT _ _ 1131 _ _ _ _
  refine tl_v2i (c9 := 12) (r_sorted l h h1 t (h 1000000 ((i : Int) + 1).toNat) (h 1000000 ((i : Int) + 2).toNat) (hI.ag (fun _ _ => rfl) (fun x hx9 => x1 x hx9)) (hj _) (hj _)) rfl rfl rfl rfl rfl (Nat.le_of_ble_eq_true rfl) (fun z2 h2 p2 => ?_)
  have g := G_kr (h := h) (h1 := h1) (h2 := h2) (t := t) (z1 := z1) (z2 := z2) (D := fun s => Dsorted s (h 1000000 ((i : Int) + 1).toNat) (h 1000000 ((i : Int) + 2).toNat)) (fun s s' a => Ag.sorted a (h 1000000 ((i : Int) + 1).toNat) (h 1000000 ((i : Int) + 2).toNat)) (fun s => Kq.rfl9) p1 p2
  rw [g.1]
  exact tl_icmp_same (tgt := 1679) rfl rfl (hx h2 g.2.1 g.2.2.1 g.2.2.2)
set_option maxRecDepth 20000 in
set_option maxHeartbeats 1000000 in
theorem lc_kinds (l : Launch) (h : jH) (t : Int) (i : Nat) (hI : IC h h t) (hj : ∀ q, jr (h 1000000 q)) (hi6 : (i : Int) + 6 ≤ h 1000001 0) (hn : h 1000001 0 ≤ 3072) (P : Option Value → jH → Prop) (hx : ∀ h2, IC h2 h2 (t + 1) → h2 1000000 = h 1000000 → h2 1000001 = h 1000001 → jT l 359 1679 [some (.ref 1000000), some (.ref 0), some (.ref 388), some (.int (jI (i : Int)))] [] h2 P) : jT l 359 1139 [some (.ref 1000000), some (.ref 0), some (.ref 388), some (.int (jI (i : Int)))] [] h P := by
  have hi9 := hi6
  refine tl_aload_n rfl rfl ?_
  refine tl_aload_n rfl rfl ?_
  refine tl_iload_n rfl rfl ?_
  refine tl_iconst rfl ?_
  refine tl_iadd rfl ?_
  refine tl_iald_sc rfl (by omega) (by omega) hn ?_
  show jT _ _ 1145 _ _ _ _
  refine tl_v1i (c9 := 11) (k_kinds l h (Tz h) t (h 1000000 ((i : Int) + 1).toNat) hI.z (hj _)) rfl rfl rfl rfl rfl (Nat.le_of_ble_eq_true rfl) (fun z1 h1 p1 => ?_)
  have x1 : ∀ x, 388 ≤ x → h1 x = h x := p1.2.2
  have e1 : h1 1000000 = h 1000000 := x1 1000000 (by decide)
  have e2 : h1 1000001 = h 1000001 := x1 1000001 (by decide)
  show jT _ _ 1148 _ _ _ _
  refine tl_aload_n rfl rfl ?_
  refine tl_aload_n rfl rfl ?_
  refine tl_iload_n rfl rfl ?_
  refine tl_iconst rfl ?_
  refine tl_iadd rfl ?_
  refine tl_iald_sc rfl (by omega) (by rw [e2]; omega) (by rw [e2]; exact hn) ?_
  rw [e1]
  show jT _ _ 1154 _ _ _ _
  refine tl_v1i (c9 := 12) (r_kinds l h h1 t (h 1000000 ((i : Int) + 1).toNat) (hI.ag (fun _ _ => rfl) (fun x hx9 => x1 x hx9)) (hj _)) rfl rfl rfl rfl rfl (Nat.le_of_ble_eq_true rfl) (fun z2 h2 p2 => ?_)
  have g := G_kr (h := h) (h1 := h1) (h2 := h2) (t := t) (z1 := z1) (z2 := z2) (D := fun s => Dkinds s (h 1000000 ((i : Int) + 1).toNat)) (fun s s' a => Ag.kinds a (h 1000000 ((i : Int) + 1).toNat)) (fun s => Kq.rfl9) p1 p2
  rw [g.1]
  exact tl_icmp_same (tgt := 1679) rfl rfl (hx h2 g.2.1 g.2.2.1 g.2.2.2)
set_option maxRecDepth 20000 in
set_option maxHeartbeats 1000000 in
theorem lc_repeated (l : Launch) (h : jH) (t : Int) (i : Nat) (hI : IC h h t) (hj : ∀ q, jr (h 1000000 q)) (hi6 : (i : Int) + 6 ≤ h 1000001 0) (hn : h 1000001 0 ≤ 3072) (P : Option Value → jH → Prop) (hx : ∀ h2, IC h2 h2 (t + 1) → h2 1000000 = h 1000000 → h2 1000001 = h 1000001 → jT l 359 1679 [some (.ref 1000000), some (.ref 0), some (.ref 388), some (.int (jI (i : Int)))] [] h2 P) : jT l 359 1162 [some (.ref 1000000), some (.ref 0), some (.ref 388), some (.int (jI (i : Int)))] [] h P := by
  have hi9 := hi6
  refine tl_aload_n rfl rfl ?_
  refine tl_aload_n rfl rfl ?_
  refine tl_iload_n rfl rfl ?_
  refine tl_iconst rfl ?_
  refine tl_iadd rfl ?_
  refine tl_iald_sc rfl (by omega) (by omega) hn ?_
  show jT _ _ 1168 _ _ _ _
  refine tl_v1i (c9 := 11) (k_repeated l h (Tz h) t (h 1000000 ((i : Int) + 1).toNat) hI.z (hj _)) rfl rfl rfl rfl rfl (Nat.le_of_ble_eq_true rfl) (fun z1 h1 p1 => ?_)
  have x1 : ∀ x, 388 ≤ x → h1 x = h x := p1.2.2
  have e1 : h1 1000000 = h 1000000 := x1 1000000 (by decide)
  have e2 : h1 1000001 = h 1000001 := x1 1000001 (by decide)
  show jT _ _ 1171 _ _ _ _
  refine tl_aload_n rfl rfl ?_
  refine tl_aload_n rfl rfl ?_
  refine tl_iload_n rfl rfl ?_
  refine tl_iconst rfl ?_
  refine tl_iadd rfl ?_
  refine tl_iald_sc rfl (by omega) (by rw [e2]; omega) (by rw [e2]; exact hn) ?_
  rw [e1]
  show jT _ _ 1177 _ _ _ _
  refine tl_v1i (c9 := 12) (r_repeated l h h1 t (h 1000000 ((i : Int) + 1).toNat) (hI.ag (fun _ _ => rfl) (fun x hx9 => x1 x hx9)) (hj _)) rfl rfl rfl rfl rfl (Nat.le_of_ble_eq_true rfl) (fun z2 h2 p2 => ?_)
  have g := G_kr (h := h) (h1 := h1) (h2 := h2) (t := t) (z1 := z1) (z2 := z2) (D := fun s => Drepeated s (h 1000000 ((i : Int) + 1).toNat)) (fun s s' a => Ag.repeated a (h 1000000 ((i : Int) + 1).toNat)) (fun s => Kq.rfl9) p1 p2
  rw [g.1]
  exact tl_icmp_same (tgt := 1679) rfl rfl (hx h2 g.2.1 g.2.2.1 g.2.2.2)
set_option maxRecDepth 20000 in
set_option maxHeartbeats 1000000 in
theorem lc_match (l : Launch) (h : jH) (t : Int) (i : Nat) (hI : IC h h t) (hj : ∀ q, jr (h 1000000 q)) (hi6 : (i : Int) + 6 ≤ h 1000001 0) (hn : h 1000001 0 ≤ 3072) (P : Option Value → jH → Prop) (hx : ∀ h2, IC h2 h2 (t + 1) → h2 1000000 = h 1000000 → h2 1000001 = h 1000001 → jT l 359 1679 [some (.ref 1000000), some (.ref 0), some (.ref 388), some (.int (jI (i : Int)))] [] h2 P) : jT l 359 1185 [some (.ref 1000000), some (.ref 0), some (.ref 388), some (.int (jI (i : Int)))] [] h P := by
  have hi9 := hi6
  refine tl_aload_n rfl rfl ?_
  refine tl_aload_n rfl rfl ?_
  refine tl_iload_n rfl rfl ?_
  refine tl_iconst rfl ?_
  refine tl_iadd rfl ?_
  refine tl_iald_sc rfl (by omega) (by omega) hn ?_
  refine tl_aload_n rfl rfl ?_
  refine tl_iload_n rfl rfl ?_
  refine tl_iconst rfl ?_
  refine tl_iadd rfl ?_
  refine tl_iald_sc rfl (by omega) (by omega) hn ?_
  show jT _ _ 1196 _ _ _ _
  refine tl_v2i (c9 := 11) (k_match l h (Tz h) t (h 1000000 ((i : Int) + 1).toNat) (h 1000000 ((i : Int) + 2).toNat) hI.z (hj _) (hj _)) rfl rfl rfl rfl rfl (Nat.le_of_ble_eq_true rfl) (fun z1 h1 p1 => ?_)
  have x1 : ∀ x, 388 ≤ x → h1 x = h x := p1.2.2
  have e1 : h1 1000000 = h 1000000 := x1 1000000 (by decide)
  have e2 : h1 1000001 = h 1000001 := x1 1000001 (by decide)
  show jT _ _ 1199 _ _ _ _
  refine tl_aload_n rfl rfl ?_
  refine tl_aload_n rfl rfl ?_
  refine tl_iload_n rfl rfl ?_
  refine tl_iconst rfl ?_
  refine tl_iadd rfl ?_
  refine tl_iald_sc rfl (by omega) (by rw [e2]; omega) (by rw [e2]; exact hn) ?_
  rw [e1]
  refine tl_aload_n rfl rfl ?_
  refine tl_iload_n rfl rfl ?_
  refine tl_iconst rfl ?_
  refine tl_iadd rfl ?_
  refine tl_iald_sc rfl (by omega) (by rw [e2]; omega) (by rw [e2]; exact hn) ?_
  rw [e1]
  show jT _ _ 1210 _ _ _ _
  refine tl_v2i (c9 := 12) (r_match l h h1 t (h 1000000 ((i : Int) + 1).toNat) (h 1000000 ((i : Int) + 2).toNat) (hI.ag (fun _ _ => rfl) (fun x hx9 => x1 x hx9)) (hj _) (hj _)) rfl rfl rfl rfl rfl (Nat.le_of_ble_eq_true rfl) (fun z2 h2 p2 => ?_)
  have g := G_kr (h := h) (h1 := h1) (h2 := h2) (t := t) (z1 := z1) (z2 := z2) (D := fun s => Dmatch s (h 1000000 ((i : Int) + 1).toNat) (h 1000000 ((i : Int) + 2).toNat)) (fun s s' a => Ag.match' a (h 1000000 ((i : Int) + 1).toNat) (h 1000000 ((i : Int) + 2).toNat)) (fun s => Kq.rfl9) p1 p2
  rw [g.1]
  exact tl_icmp_same (tgt := 1679) rfl rfl (hx h2 g.2.1 g.2.2.1 g.2.2.2)
set_option maxRecDepth 20000 in
set_option maxHeartbeats 1000000 in
theorem lc_anchor (l : Launch) (h : jH) (t : Int) (i : Nat) (hI : IC h h t) (hj : ∀ q, jr (h 1000000 q)) (hi6 : (i : Int) + 6 ≤ h 1000001 0) (hn : h 1000001 0 ≤ 3072) (P : Option Value → jH → Prop) (hx : ∀ h2, IC h2 h2 (t + 1) → h2 1000000 = h 1000000 → h2 1000001 = h 1000001 → jT l 359 1679 [some (.ref 1000000), some (.ref 0), some (.ref 388), some (.int (jI (i : Int)))] [] h2 P) : jT l 359 1218 [some (.ref 1000000), some (.ref 0), some (.ref 388), some (.int (jI (i : Int)))] [] h P := by
  have hi9 := hi6
  refine tl_aload_n rfl rfl ?_
  refine tl_aload_n rfl rfl ?_
  refine tl_iload_n rfl rfl ?_
  refine tl_iconst rfl ?_
  refine tl_iadd rfl ?_
  refine tl_iald_sc rfl (by omega) (by omega) hn ?_
  refine tl_aload_n rfl rfl ?_
  refine tl_iload_n rfl rfl ?_
  refine tl_iconst rfl ?_
  refine tl_iadd rfl ?_
  refine tl_iald_sc rfl (by omega) (by omega) hn ?_
  show jT _ _ 1229 _ _ _ _
  refine tl_v2i (c9 := 11) (k_anchor l h (Tz h) t (h 1000000 ((i : Int) + 1).toNat) (h 1000000 ((i : Int) + 2).toNat) hI.z (hj _) (hj _)) rfl rfl rfl rfl rfl (Nat.le_of_ble_eq_true rfl) (fun z1 h1 p1 => ?_)
  have x1 : ∀ x, 388 ≤ x → h1 x = h x := p1.2.2
  have e1 : h1 1000000 = h 1000000 := x1 1000000 (by decide)
  have e2 : h1 1000001 = h 1000001 := x1 1000001 (by decide)
  show jT _ _ 1232 _ _ _ _
  refine tl_aload_n rfl rfl ?_
  refine tl_aload_n rfl rfl ?_
  refine tl_iload_n rfl rfl ?_
  refine tl_iconst rfl ?_
  refine tl_iadd rfl ?_
  refine tl_iald_sc rfl (by omega) (by rw [e2]; omega) (by rw [e2]; exact hn) ?_
  rw [e1]
  refine tl_aload_n rfl rfl ?_
  refine tl_iload_n rfl rfl ?_
  refine tl_iconst rfl ?_
  refine tl_iadd rfl ?_
  refine tl_iald_sc rfl (by omega) (by rw [e2]; omega) (by rw [e2]; exact hn) ?_
  rw [e1]
  show jT _ _ 1243 _ _ _ _
  refine tl_v2i (c9 := 12) (r_anchor l h h1 t (h 1000000 ((i : Int) + 1).toNat) (h 1000000 ((i : Int) + 2).toNat) (hI.ag (fun _ _ => rfl) (fun x hx9 => x1 x hx9)) (hj _) (hj _)) rfl rfl rfl rfl rfl (Nat.le_of_ble_eq_true rfl) (fun z2 h2 p2 => ?_)
  have g := G_kr (h := h) (h1 := h1) (h2 := h2) (t := t) (z1 := z1) (z2 := z2) (D := fun s => Danchor s (h 1000000 ((i : Int) + 1).toNat) (h 1000000 ((i : Int) + 2).toNat)) (fun s s' a => Ag.anchor a (h 1000000 ((i : Int) + 1).toNat) (h 1000000 ((i : Int) + 2).toNat)) (fun s => Kq.rfl9) p1 p2
  rw [g.1]
  exact tl_icmp_same (tgt := 1679) rfl rfl (hx h2 g.2.1 g.2.2.1 g.2.2.2)
set_option maxRecDepth 20000 in
set_option maxHeartbeats 1000000 in
theorem lc_origin (l : Launch) (h : jH) (t : Int) (i : Nat) (hI : IC h h t) (hj : ∀ q, jr (h 1000000 q)) (hi6 : (i : Int) + 6 ≤ h 1000001 0) (hn : h 1000001 0 ≤ 3072) (P : Option Value → jH → Prop) (hx : ∀ h2, IC h2 h2 (t + 1) → h2 1000000 = h 1000000 → h2 1000001 = h 1000001 → jT l 359 1679 [some (.ref 1000000), some (.ref 0), some (.ref 388), some (.int (jI (i : Int)))] [] h2 P) : jT l 359 1251 [some (.ref 1000000), some (.ref 0), some (.ref 388), some (.int (jI (i : Int)))] [] h P := by
  have hi9 := hi6
  refine tl_aload_n rfl rfl ?_
  refine tl_aload_n rfl rfl ?_
  refine tl_iload_n rfl rfl ?_
  refine tl_iconst rfl ?_
  refine tl_iadd rfl ?_
  refine tl_iald_sc rfl (by omega) (by omega) hn ?_
  refine tl_aload_n rfl rfl ?_
  refine tl_iload_n rfl rfl ?_
  refine tl_iconst rfl ?_
  refine tl_iadd rfl ?_
  refine tl_iald_sc rfl (by omega) (by omega) hn ?_
  show jT _ _ 1262 _ _ _ _
  refine tl_v2i (c9 := 11) (k_origin l h (Tz h) t (h 1000000 ((i : Int) + 1).toNat) (h 1000000 ((i : Int) + 2).toNat) hI.z (hj _) (hj _)) rfl rfl rfl rfl rfl (Nat.le_of_ble_eq_true rfl) (fun z1 h1 p1 => ?_)
  have x1 : ∀ x, 388 ≤ x → h1 x = h x := p1.2.2
  have e1 : h1 1000000 = h 1000000 := x1 1000000 (by decide)
  have e2 : h1 1000001 = h 1000001 := x1 1000001 (by decide)
  show jT _ _ 1265 _ _ _ _
  refine tl_aload_n rfl rfl ?_
  refine tl_aload_n rfl rfl ?_
  refine tl_iload_n rfl rfl ?_
  refine tl_iconst rfl ?_
  refine tl_iadd rfl ?_
  refine tl_iald_sc rfl (by omega) (by rw [e2]; omega) (by rw [e2]; exact hn) ?_
  rw [e1]
  refine tl_aload_n rfl rfl ?_
  refine tl_iload_n rfl rfl ?_
  refine tl_iconst rfl ?_
  refine tl_iadd rfl ?_
  refine tl_iald_sc rfl (by omega) (by rw [e2]; omega) (by rw [e2]; exact hn) ?_
  rw [e1]
  show jT _ _ 1276 _ _ _ _
  refine tl_v2i (c9 := 12) (r_origin l h h1 t (h 1000000 ((i : Int) + 1).toNat) (h 1000000 ((i : Int) + 2).toNat) (hI.ag (fun _ _ => rfl) (fun x hx9 => x1 x hx9)) (hj _) (hj _)) rfl rfl rfl rfl rfl (Nat.le_of_ble_eq_true rfl) (fun z2 h2 p2 => ?_)
  have g := G_kr (h := h) (h1 := h1) (h2 := h2) (t := t) (z1 := z1) (z2 := z2) (D := fun s => Dorigin s (h 1000000 ((i : Int) + 1).toNat) (h 1000000 ((i : Int) + 2).toNat)) (fun s s' a => Ag.origin a (h 1000000 ((i : Int) + 1).toNat) (h 1000000 ((i : Int) + 2).toNat)) (fun s => Kq.rfl9) p1 p2
  rw [g.1]
  exact tl_icmp_same (tgt := 1679) rfl rfl (hx h2 g.2.1 g.2.2.1 g.2.2.2)
set_option maxRecDepth 20000 in
set_option maxHeartbeats 1000000 in
theorem lc_parts (l : Launch) (h : jH) (t : Int) (i : Nat) (hI : IC h h t) (hj : ∀ q, jr (h 1000000 q)) (hi6 : (i : Int) + 6 ≤ h 1000001 0) (hn : h 1000001 0 ≤ 3072) (P : Option Value → jH → Prop) (hx : ∀ h2, IC h2 h2 (t + 1) → h2 1000000 = h 1000000 → h2 1000001 = h 1000001 → jT l 359 1679 [some (.ref 1000000), some (.ref 0), some (.ref 388), some (.int (jI (i : Int)))] [] h2 P) : jT l 359 1284 [some (.ref 1000000), some (.ref 0), some (.ref 388), some (.int (jI (i : Int)))] [] h P := by
  have hi9 := hi6
  refine tl_aload_n rfl rfl ?_
  refine tl_aload_n rfl rfl ?_
  refine tl_iload_n rfl rfl ?_
  refine tl_iconst rfl ?_
  refine tl_iadd rfl ?_
  refine tl_iald_sc rfl (by omega) (by omega) hn ?_
  show jT _ _ 1290 _ _ _ _
  refine tl_v1i (c9 := 11) (k_parts l h (Tz h) t (h 1000000 ((i : Int) + 1).toNat) hI.z (hj _)) rfl rfl rfl rfl rfl (Nat.le_of_ble_eq_true rfl) (fun z1 h1 p1 => ?_)
  have x1 : ∀ x, 388 ≤ x → h1 x = h x := p1.2.2
  have e1 : h1 1000000 = h 1000000 := x1 1000000 (by decide)
  have e2 : h1 1000001 = h 1000001 := x1 1000001 (by decide)
  show jT _ _ 1293 _ _ _ _
  refine tl_aload_n rfl rfl ?_
  refine tl_aload_n rfl rfl ?_
  refine tl_iload_n rfl rfl ?_
  refine tl_iconst rfl ?_
  refine tl_iadd rfl ?_
  refine tl_iald_sc rfl (by omega) (by rw [e2]; omega) (by rw [e2]; exact hn) ?_
  rw [e1]
  show jT _ _ 1299 _ _ _ _
  refine tl_v1i (c9 := 12) (r_parts l h h1 t (h 1000000 ((i : Int) + 1).toNat) (hI.ag (fun _ _ => rfl) (fun x hx9 => x1 x hx9)) (hj _)) rfl rfl rfl rfl rfl (Nat.le_of_ble_eq_true rfl) (fun z2 h2 p2 => ?_)
  have g := G_kr (h := h) (h1 := h1) (h2 := h2) (t := t) (z1 := z1) (z2 := z2) (D := fun s => Dparts s (h 1000000 ((i : Int) + 1).toNat)) (fun s s' a => Ag.parts a (h 1000000 ((i : Int) + 1).toNat)) (fun s => Kq.rfl9) p1 p2
  rw [g.1]
  exact tl_icmp_same (tgt := 1679) rfl rfl (hx h2 g.2.1 g.2.2.1 g.2.2.2)
set_option maxRecDepth 20000 in
set_option maxHeartbeats 1000000 in
theorem lc_part (l : Launch) (h : jH) (t : Int) (i : Nat) (hI : IC h h t) (hj : ∀ q, jr (h 1000000 q)) (hi6 : (i : Int) + 6 ≤ h 1000001 0) (hn : h 1000001 0 ≤ 3072) (P : Option Value → jH → Prop) (hx : ∀ h2, IC h2 h2 (t + 1) → h2 1000000 = h 1000000 → h2 1000001 = h 1000001 → jT l 359 1679 [some (.ref 1000000), some (.ref 0), some (.ref 388), some (.int (jI (i : Int)))] [] h2 P) : jT l 359 1307 [some (.ref 1000000), some (.ref 0), some (.ref 388), some (.int (jI (i : Int)))] [] h P := by
  have hi9 := hi6
  refine tl_aload_n rfl rfl ?_
  refine tl_aload_n rfl rfl ?_
  refine tl_iload_n rfl rfl ?_
  refine tl_iconst rfl ?_
  refine tl_iadd rfl ?_
  refine tl_iald_sc rfl (by omega) (by omega) hn ?_
  refine tl_aload_n rfl rfl ?_
  refine tl_iload_n rfl rfl ?_
  refine tl_iconst rfl ?_
  refine tl_iadd rfl ?_
  refine tl_iald_sc rfl (by omega) (by omega) hn ?_
  refine tl_aload_n rfl rfl ?_
  refine tl_iload_n rfl rfl ?_
  refine tl_iconst rfl ?_
  refine tl_iadd rfl ?_
  refine tl_iald_sc rfl (by omega) (by omega) hn ?_
  show jT _ _ 1323 _ _ _ _
  refine tl_v3i (c9 := 11) (k_part l h (Tz h) t (h 1000000 ((i : Int) + 1).toNat) (h 1000000 ((i : Int) + 2).toNat) (h 1000000 ((i : Int) + 3).toNat) hI.z (hj _) (hj _) (hj _)) rfl rfl rfl rfl rfl (Nat.le_of_ble_eq_true rfl) (fun z1 h1 p1 => ?_)
  have x1 : ∀ x, 388 ≤ x → h1 x = h x := p1.2.2
  have e1 : h1 1000000 = h 1000000 := x1 1000000 (by decide)
  have e2 : h1 1000001 = h 1000001 := x1 1000001 (by decide)
  show jT _ _ 1326 _ _ _ _
  refine tl_aload_n rfl rfl ?_
  refine tl_aload_n rfl rfl ?_
  refine tl_iload_n rfl rfl ?_
  refine tl_iconst rfl ?_
  refine tl_iadd rfl ?_
  refine tl_iald_sc rfl (by omega) (by rw [e2]; omega) (by rw [e2]; exact hn) ?_
  rw [e1]
  refine tl_aload_n rfl rfl ?_
  refine tl_iload_n rfl rfl ?_
  refine tl_iconst rfl ?_
  refine tl_iadd rfl ?_
  refine tl_iald_sc rfl (by omega) (by rw [e2]; omega) (by rw [e2]; exact hn) ?_
  rw [e1]
  refine tl_aload_n rfl rfl ?_
  refine tl_iload_n rfl rfl ?_
  refine tl_iconst rfl ?_
  refine tl_iadd rfl ?_
  refine tl_iald_sc rfl (by omega) (by rw [e2]; omega) (by rw [e2]; exact hn) ?_
  rw [e1]
  show jT _ _ 1342 _ _ _ _
  refine tl_v3i (c9 := 12) (r_part l h h1 t (h 1000000 ((i : Int) + 1).toNat) (h 1000000 ((i : Int) + 2).toNat) (h 1000000 ((i : Int) + 3).toNat) (hI.ag (fun _ _ => rfl) (fun x hx9 => x1 x hx9)) (hj _) (hj _) (hj _)) rfl rfl rfl rfl rfl (Nat.le_of_ble_eq_true rfl) (fun z2 h2 p2 => ?_)
  have g := G_kr (h := h) (h1 := h1) (h2 := h2) (t := t) (z1 := z1) (z2 := z2) (D := fun s => Dpart s (h 1000000 ((i : Int) + 1).toNat) (h 1000000 ((i : Int) + 2).toNat) (h 1000000 ((i : Int) + 3).toNat)) (fun s s' a => Ag.part a (h 1000000 ((i : Int) + 1).toNat) (h 1000000 ((i : Int) + 2).toNat) (h 1000000 ((i : Int) + 3).toNat)) (fun s => Kq.rfl9) p1 p2
  rw [g.1]
  exact tl_icmp_same (tgt := 1679) rfl rfl (hx h2 g.2.1 g.2.2.1 g.2.2.2)
set_option maxRecDepth 20000 in
set_option maxHeartbeats 1000000 in
theorem lc_way (l : Launch) (h : jH) (t : Int) (i : Nat) (hI : IC h h t) (hj : ∀ q, jr (h 1000000 q)) (hi6 : (i : Int) + 6 ≤ h 1000001 0) (hn : h 1000001 0 ≤ 3072) (P : Option Value → jH → Prop) (hx : ∀ h2, IC h2 h2 (t + 1) → h2 1000000 = h 1000000 → h2 1000001 = h 1000001 → jT l 359 1679 [some (.ref 1000000), some (.ref 0), some (.ref 388), some (.int (jI (i : Int)))] [] h2 P) : jT l 359 1350 [some (.ref 1000000), some (.ref 0), some (.ref 388), some (.int (jI (i : Int)))] [] h P := by
  have hi9 := hi6
  refine tl_aload_n rfl rfl ?_
  refine tl_aload_n rfl rfl ?_
  refine tl_iload_n rfl rfl ?_
  refine tl_iconst rfl ?_
  refine tl_iadd rfl ?_
  refine tl_iald_sc rfl (by omega) (by omega) hn ?_
  refine tl_aload_n rfl rfl ?_
  refine tl_iload_n rfl rfl ?_
  refine tl_iconst rfl ?_
  refine tl_iadd rfl ?_
  refine tl_iald_sc rfl (by omega) (by omega) hn ?_
  show jT _ _ 1361 _ _ _ _
  refine tl_v2i (c9 := 11) (k_way l h (Tz h) t (h 1000000 ((i : Int) + 1).toNat) (h 1000000 ((i : Int) + 2).toNat) hI.z (hj _) (hj _)) rfl rfl rfl rfl rfl (Nat.le_of_ble_eq_true rfl) (fun z1 h1 p1 => ?_)
  have x1 : ∀ x, 388 ≤ x → h1 x = h x := p1.2.2
  have e1 : h1 1000000 = h 1000000 := x1 1000000 (by decide)
  have e2 : h1 1000001 = h 1000001 := x1 1000001 (by decide)
  show jT _ _ 1364 _ _ _ _
  refine tl_aload_n rfl rfl ?_
  refine tl_aload_n rfl rfl ?_
  refine tl_iload_n rfl rfl ?_
  refine tl_iconst rfl ?_
  refine tl_iadd rfl ?_
  refine tl_iald_sc rfl (by omega) (by rw [e2]; omega) (by rw [e2]; exact hn) ?_
  rw [e1]
  refine tl_aload_n rfl rfl ?_
  refine tl_iload_n rfl rfl ?_
  refine tl_iconst rfl ?_
  refine tl_iadd rfl ?_
  refine tl_iald_sc rfl (by omega) (by rw [e2]; omega) (by rw [e2]; exact hn) ?_
  rw [e1]
  show jT _ _ 1375 _ _ _ _
  refine tl_v2i (c9 := 12) (r_way l h h1 t (h 1000000 ((i : Int) + 1).toNat) (h 1000000 ((i : Int) + 2).toNat) (hI.ag (fun _ _ => rfl) (fun x hx9 => x1 x hx9)) (hj _) (hj _)) rfl rfl rfl rfl rfl (Nat.le_of_ble_eq_true rfl) (fun z2 h2 p2 => ?_)
  have g := G_kr (h := h) (h1 := h1) (h2 := h2) (t := t) (z1 := z1) (z2 := z2) (D := fun s => Dway s (h 1000000 ((i : Int) + 1).toNat) (h 1000000 ((i : Int) + 2).toNat)) (fun s s' a => Ag.way a (h 1000000 ((i : Int) + 1).toNat) (h 1000000 ((i : Int) + 2).toNat)) (fun s => Kq.rfl9) p1 p2
  rw [g.1]
  exact tl_icmp_same (tgt := 1679) rfl rfl (hx h2 g.2.1 g.2.2.1 g.2.2.2)
set_option maxRecDepth 20000 in
set_option maxHeartbeats 1000000 in
theorem lc_order (l : Launch) (h : jH) (t : Int) (i : Nat) (hI : IC h h t) (hj : ∀ q, jr (h 1000000 q)) (hi6 : (i : Int) + 6 ≤ h 1000001 0) (hn : h 1000001 0 ≤ 3072) (P : Option Value → jH → Prop) (hx : ∀ h2, IC h2 h2 (t + 1) → h2 1000000 = h 1000000 → h2 1000001 = h 1000001 → jT l 359 1679 [some (.ref 1000000), some (.ref 0), some (.ref 388), some (.int (jI (i : Int)))] [] h2 P) : jT l 359 1383 [some (.ref 1000000), some (.ref 0), some (.ref 388), some (.int (jI (i : Int)))] [] h P := by
  have hi9 := hi6
  refine tl_aload_n rfl rfl ?_
  refine tl_aload_n rfl rfl ?_
  refine tl_iload_n rfl rfl ?_
  refine tl_iconst rfl ?_
  refine tl_iadd rfl ?_
  refine tl_iald_sc rfl (by omega) (by omega) hn ?_
  refine tl_aload_n rfl rfl ?_
  refine tl_iload_n rfl rfl ?_
  refine tl_iconst rfl ?_
  refine tl_iadd rfl ?_
  refine tl_iald_sc rfl (by omega) (by omega) hn ?_
  show jT _ _ 1394 _ _ _ _
  refine tl_v2i (c9 := 11) (k_order l h (Tz h) t (h 1000000 ((i : Int) + 1).toNat) (h 1000000 ((i : Int) + 2).toNat) hI.z (hj _) (hj _)) rfl rfl rfl rfl rfl (Nat.le_of_ble_eq_true rfl) (fun z1 h1 p1 => ?_)
  have x1 : ∀ x, 388 ≤ x → h1 x = h x := p1.2.2
  have e1 : h1 1000000 = h 1000000 := x1 1000000 (by decide)
  have e2 : h1 1000001 = h 1000001 := x1 1000001 (by decide)
  show jT _ _ 1397 _ _ _ _
  refine tl_aload_n rfl rfl ?_
  refine tl_aload_n rfl rfl ?_
  refine tl_iload_n rfl rfl ?_
  refine tl_iconst rfl ?_
  refine tl_iadd rfl ?_
  refine tl_iald_sc rfl (by omega) (by rw [e2]; omega) (by rw [e2]; exact hn) ?_
  rw [e1]
  refine tl_aload_n rfl rfl ?_
  refine tl_iload_n rfl rfl ?_
  refine tl_iconst rfl ?_
  refine tl_iadd rfl ?_
  refine tl_iald_sc rfl (by omega) (by rw [e2]; omega) (by rw [e2]; exact hn) ?_
  rw [e1]
  show jT _ _ 1408 _ _ _ _
  refine tl_v2i (c9 := 12) (r_order l h h1 t (h 1000000 ((i : Int) + 1).toNat) (h 1000000 ((i : Int) + 2).toNat) (hI.ag (fun _ _ => rfl) (fun x hx9 => x1 x hx9)) (hj _) (hj _)) rfl rfl rfl rfl rfl (Nat.le_of_ble_eq_true rfl) (fun z2 h2 p2 => ?_)
  have g := G_kr (h := h) (h1 := h1) (h2 := h2) (t := t) (z1 := z1) (z2 := z2) (D := fun s => Dorder s (h 1000000 ((i : Int) + 1).toNat) (h 1000000 ((i : Int) + 2).toNat)) (fun s s' a => Ag.order a (h 1000000 ((i : Int) + 1).toNat) (h 1000000 ((i : Int) + 2).toNat)) (fun s => Kq.rfl9) p1 p2
  rw [g.1]
  exact tl_icmp_same (tgt := 1679) rfl rfl (hx h2 g.2.1 g.2.2.1 g.2.2.2)
set_option maxRecDepth 20000 in
set_option maxHeartbeats 1000000 in
theorem lc_dropped (l : Launch) (h : jH) (t : Int) (i : Nat) (hI : IC h h t) (hj : ∀ q, jr (h 1000000 q)) (hi6 : (i : Int) + 6 ≤ h 1000001 0) (hn : h 1000001 0 ≤ 3072) (P : Option Value → jH → Prop) (hx : ∀ h2, IC h2 h2 (t + 1) → h2 1000000 = h 1000000 → h2 1000001 = h 1000001 → jT l 359 1679 [some (.ref 1000000), some (.ref 0), some (.ref 388), some (.int (jI (i : Int)))] [] h2 P) : jT l 359 1416 [some (.ref 1000000), some (.ref 0), some (.ref 388), some (.int (jI (i : Int)))] [] h P := by
  have hi9 := hi6
  refine tl_aload_n rfl rfl ?_
  refine tl_aload_n rfl rfl ?_
  refine tl_iload_n rfl rfl ?_
  refine tl_iconst rfl ?_
  refine tl_iadd rfl ?_
  refine tl_iald_sc rfl (by omega) (by omega) hn ?_
  refine tl_aload_n rfl rfl ?_
  refine tl_iload_n rfl rfl ?_
  refine tl_iconst rfl ?_
  refine tl_iadd rfl ?_
  refine tl_iald_sc rfl (by omega) (by omega) hn ?_
  show jT _ _ 1427 _ _ _ _
  refine tl_v2i (c9 := 11) (k_dropped l h (Tz h) t (h 1000000 ((i : Int) + 1).toNat) (h 1000000 ((i : Int) + 2).toNat) hI.z (hj _) (hj _)) rfl rfl rfl rfl rfl (Nat.le_of_ble_eq_true rfl) (fun z1 h1 p1 => ?_)
  have x1 : ∀ x, 388 ≤ x → h1 x = h x := p1.2.2
  have e1 : h1 1000000 = h 1000000 := x1 1000000 (by decide)
  have e2 : h1 1000001 = h 1000001 := x1 1000001 (by decide)
  show jT _ _ 1430 _ _ _ _
  refine tl_aload_n rfl rfl ?_
  refine tl_aload_n rfl rfl ?_
  refine tl_iload_n rfl rfl ?_
  refine tl_iconst rfl ?_
  refine tl_iadd rfl ?_
  refine tl_iald_sc rfl (by omega) (by rw [e2]; omega) (by rw [e2]; exact hn) ?_
  rw [e1]
  refine tl_aload_n rfl rfl ?_
  refine tl_iload_n rfl rfl ?_
  refine tl_iconst rfl ?_
  refine tl_iadd rfl ?_
  refine tl_iald_sc rfl (by omega) (by rw [e2]; omega) (by rw [e2]; exact hn) ?_
  rw [e1]
  show jT _ _ 1441 _ _ _ _
  refine tl_v2i (c9 := 12) (r_dropped l h h1 t (h 1000000 ((i : Int) + 1).toNat) (h 1000000 ((i : Int) + 2).toNat) (hI.ag (fun _ _ => rfl) (fun x hx9 => x1 x hx9)) (hj _) (hj _)) rfl rfl rfl rfl rfl (Nat.le_of_ble_eq_true rfl) (fun z2 h2 p2 => ?_)
  have g := G_kr (h := h) (h1 := h1) (h2 := h2) (t := t) (z1 := z1) (z2 := z2) (D := fun s => Ddropped s (h 1000000 ((i : Int) + 1).toNat) (h 1000000 ((i : Int) + 2).toNat)) (fun s s' a => Ag.dropped a (h 1000000 ((i : Int) + 1).toNat) (h 1000000 ((i : Int) + 2).toNat)) (fun s => Kq.rfl9) p1 p2
  rw [g.1]
  exact tl_icmp_same (tgt := 1679) rfl rfl (hx h2 g.2.1 g.2.2.1 g.2.2.2)
set_option maxRecDepth 20000 in
set_option maxHeartbeats 1000000 in
theorem lc_flawOf (l : Launch) (h : jH) (t : Int) (i : Nat) (hI : IC h h t) (hj : ∀ q, jr (h 1000000 q)) (hi6 : (i : Int) + 6 ≤ h 1000001 0) (hn : h 1000001 0 ≤ 3072) (P : Option Value → jH → Prop) (hx : ∀ h2, IC h2 h2 (t + 1) → h2 1000000 = h 1000000 → h2 1000001 = h 1000001 → jT l 359 1679 [some (.ref 1000000), some (.ref 0), some (.ref 388), some (.int (jI (i : Int)))] [] h2 P) : jT l 359 1449 [some (.ref 1000000), some (.ref 0), some (.ref 388), some (.int (jI (i : Int)))] [] h P := by
  have hi9 := hi6
  refine tl_aload_n rfl rfl ?_
  refine tl_aload_n rfl rfl ?_
  refine tl_iload_n rfl rfl ?_
  refine tl_iconst rfl ?_
  refine tl_iadd rfl ?_
  refine tl_iald_sc rfl (by omega) (by omega) hn ?_
  show jT _ _ 1455 _ _ _ _
  refine tl_v1i (c9 := 11) (k_flawOf l h (Tz h) t (h 1000000 ((i : Int) + 1).toNat) hI.z (hj _)) rfl rfl rfl rfl rfl (Nat.le_of_ble_eq_true rfl) (fun z1 h1 p1 => ?_)
  have x1 : ∀ x, 388 ≤ x → h1 x = h x := p1.2.2
  have e1 : h1 1000000 = h 1000000 := x1 1000000 (by decide)
  have e2 : h1 1000001 = h 1000001 := x1 1000001 (by decide)
  show jT _ _ 1458 _ _ _ _
  refine tl_aload_n rfl rfl ?_
  refine tl_aload_n rfl rfl ?_
  refine tl_iload_n rfl rfl ?_
  refine tl_iconst rfl ?_
  refine tl_iadd rfl ?_
  refine tl_iald_sc rfl (by omega) (by rw [e2]; omega) (by rw [e2]; exact hn) ?_
  rw [e1]
  show jT _ _ 1464 _ _ _ _
  refine tl_v1i (c9 := 12) (r_flawOf l h h1 t (h 1000000 ((i : Int) + 1).toNat) (hI.ag (fun _ _ => rfl) (fun x hx9 => x1 x hx9)) (hj _)) rfl rfl rfl rfl rfl (Nat.le_of_ble_eq_true rfl) (fun z2 h2 p2 => ?_)
  have g := G_kr (h := h) (h1 := h1) (h2 := h2) (t := t) (z1 := z1) (z2 := z2) (D := fun s => DflawOf s (h 1000000 ((i : Int) + 1).toNat)) (fun s s' a => Ag.flawOf a (h 1000000 ((i : Int) + 1).toNat)) (fun s => Kq.rfl9) p1 p2
  rw [g.1]
  exact tl_icmp_same (tgt := 1679) rfl rfl (hx h2 g.2.1 g.2.2.1 g.2.2.2)
set_option maxRecDepth 20000 in
set_option maxHeartbeats 1000000 in
theorem lc_cheapest (l : Launch) (h : jH) (t : Int) (i : Nat) (hI : IC h h t) (hj : ∀ q, jr (h 1000000 q)) (hi6 : (i : Int) + 6 ≤ h 1000001 0) (hn : h 1000001 0 ≤ 3072) (P : Option Value → jH → Prop) (hx : ∀ h2, IC h2 h2 (t + 1) → h2 1000000 = h 1000000 → h2 1000001 = h 1000001 → jT l 359 1679 [some (.ref 1000000), some (.ref 0), some (.ref 388), some (.int (jI (i : Int)))] [] h2 P) : jT l 359 1472 [some (.ref 1000000), some (.ref 0), some (.ref 388), some (.int (jI (i : Int)))] [] h P := by
  have hi9 := hi6
  refine tl_aload_n rfl rfl ?_
  refine tl_aload_n rfl rfl ?_
  refine tl_iload_n rfl rfl ?_
  refine tl_iconst rfl ?_
  refine tl_iadd rfl ?_
  refine tl_iald_sc rfl (by omega) (by omega) hn ?_
  show jT _ _ 1478 _ _ _ _
  refine tl_v1i (c9 := 11) (k_cheapest l h (Tz h) t (h 1000000 ((i : Int) + 1).toNat) hI.z (hj _)) rfl rfl rfl rfl rfl (Nat.le_of_ble_eq_true rfl) (fun z1 h1 p1 => ?_)
  have x1 : ∀ x, 388 ≤ x → h1 x = h x := p1.2.2
  have e1 : h1 1000000 = h 1000000 := x1 1000000 (by decide)
  have e2 : h1 1000001 = h 1000001 := x1 1000001 (by decide)
  show jT _ _ 1481 _ _ _ _
  refine tl_aload_n rfl rfl ?_
  refine tl_aload_n rfl rfl ?_
  refine tl_iload_n rfl rfl ?_
  refine tl_iconst rfl ?_
  refine tl_iadd rfl ?_
  refine tl_iald_sc rfl (by omega) (by rw [e2]; omega) (by rw [e2]; exact hn) ?_
  rw [e1]
  show jT _ _ 1487 _ _ _ _
  refine tl_v1i (c9 := 12) (r_cheapest l h h1 t (h 1000000 ((i : Int) + 1).toNat) (hI.ag (fun _ _ => rfl) (fun x hx9 => x1 x hx9)) (hj _)) rfl rfl rfl rfl rfl (Nat.le_of_ble_eq_true rfl) (fun z2 h2 p2 => ?_)
  have g := G_kr (h := h) (h1 := h1) (h2 := h2) (t := t) (z1 := z1) (z2 := z2) (D := fun s => Dcheapest s (h 1000000 ((i : Int) + 1).toNat)) (fun s s' a => Ag.cheapest a (h 1000000 ((i : Int) + 1).toNat)) (fun s => Kq.rfl9) p1 p2
  rw [g.1]
  exact tl_icmp_same (tgt := 1679) rfl rfl (hx h2 g.2.1 g.2.2.1 g.2.2.2)
set_option maxRecDepth 20000 in
set_option maxHeartbeats 1000000 in
theorem lc_apart (l : Launch) (h : jH) (t : Int) (i : Nat) (hI : IC h h t) (hj : ∀ q, jr (h 1000000 q)) (hi6 : (i : Int) + 6 ≤ h 1000001 0) (hn : h 1000001 0 ≤ 3072) (P : Option Value → jH → Prop) (hx : ∀ h2, IC h2 h2 (t + 1) → h2 1000000 = h 1000000 → h2 1000001 = h 1000001 → jT l 359 1679 [some (.ref 1000000), some (.ref 0), some (.ref 388), some (.int (jI (i : Int)))] [] h2 P) : jT l 359 1495 [some (.ref 1000000), some (.ref 0), some (.ref 388), some (.int (jI (i : Int)))] [] h P := by
  have hi9 := hi6
  refine tl_aload_n rfl rfl ?_
  show jT _ _ 1496 _ _ _ _
  refine tl_v0i (c9 := 11) (k_apart l h (Tz h) t  hI.z ) rfl rfl rfl rfl rfl (Nat.le_of_ble_eq_true rfl) (fun z1 h1 p1 => ?_)
  have x1 : ∀ x, 388 ≤ x → h1 x = h x := p1.2.2
  have e1 : h1 1000000 = h 1000000 := x1 1000000 (by decide)
  have e2 : h1 1000001 = h 1000001 := x1 1000001 (by decide)
  show jT _ _ 1499 _ _ _ _
  refine tl_aload_n rfl rfl ?_
  show jT _ _ 1500 _ _ _ _
  refine tl_v0i (c9 := 12) (r_apart l h h1 t  (hI.ag (fun _ _ => rfl) (fun x hx9 => x1 x hx9)) ) rfl rfl rfl rfl rfl (Nat.le_of_ble_eq_true rfl) (fun z2 h2 p2 => ?_)
  have g := G_kr (h := h) (h1 := h1) (h2 := h2) (t := t) (z1 := z1) (z2 := z2) (D := fun s => Dapart s ) (fun s s' a => Ag.apart a ) (fun s => Kq.rfl9) p1 p2
  rw [g.1]
  exact tl_icmp_same (tgt := 1679) rfl rfl (hx h2 g.2.1 g.2.2.1 g.2.2.2)
set_option maxRecDepth 20000 in
set_option maxHeartbeats 1000000 in
theorem lc_stay (l : Launch) (h : jH) (t : Int) (i : Nat) (hI : IC h h t) (hj : ∀ q, jr (h 1000000 q)) (hi6 : (i : Int) + 6 ≤ h 1000001 0) (hn : h 1000001 0 ≤ 3072) (P : Option Value → jH → Prop) (hx : ∀ h2, IC h2 h2 (t + 1) → h2 1000000 = h 1000000 → h2 1000001 = h 1000001 → jT l 359 1679 [some (.ref 1000000), some (.ref 0), some (.ref 388), some (.int (jI (i : Int)))] [] h2 P) : jT l 359 1508 [some (.ref 1000000), some (.ref 0), some (.ref 388), some (.int (jI (i : Int)))] [] h P := by
  have hi9 := hi6
  refine tl_aload_n rfl rfl ?_
  refine tl_aload_n rfl rfl ?_
  refine tl_iload_n rfl rfl ?_
  refine tl_iconst rfl ?_
  refine tl_iadd rfl ?_
  refine tl_iald_sc rfl (by omega) (by omega) hn ?_
  show jT _ _ 1514 _ _ _ _
  refine tl_v1i (c9 := 11) (k_stay l h (Tz h) t (h 1000000 ((i : Int) + 1).toNat) hI.z (hj _)) rfl rfl rfl rfl rfl (Nat.le_of_ble_eq_true rfl) (fun z1 h1 p1 => ?_)
  have x1 : ∀ x, 388 ≤ x → h1 x = h x := p1.2.2
  have e1 : h1 1000000 = h 1000000 := x1 1000000 (by decide)
  have e2 : h1 1000001 = h 1000001 := x1 1000001 (by decide)
  show jT _ _ 1517 _ _ _ _
  refine tl_aload_n rfl rfl ?_
  refine tl_aload_n rfl rfl ?_
  refine tl_iload_n rfl rfl ?_
  refine tl_iconst rfl ?_
  refine tl_iadd rfl ?_
  refine tl_iald_sc rfl (by omega) (by rw [e2]; omega) (by rw [e2]; exact hn) ?_
  rw [e1]
  show jT _ _ 1523 _ _ _ _
  refine tl_v1i (c9 := 12) (r_stay l h h1 t (h 1000000 ((i : Int) + 1).toNat) (hI.ag (fun _ _ => rfl) (fun x hx9 => x1 x hx9)) (hj _)) rfl rfl rfl rfl rfl (Nat.le_of_ble_eq_true rfl) (fun z2 h2 p2 => ?_)
  have g := G_kr (h := h) (h1 := h1) (h2 := h2) (t := t) (z1 := z1) (z2 := z2) (D := fun s => Dstay s (h 1000000 ((i : Int) + 1).toNat)) (fun s s' a => Ag.stay a (h 1000000 ((i : Int) + 1).toNat)) (fun s => Kq.rfl9) p1 p2
  rw [g.1]
  exact tl_icmp_same (tgt := 1679) rfl rfl (hx h2 g.2.1 g.2.2.1 g.2.2.2)
set_option maxRecDepth 20000 in
set_option maxHeartbeats 1000000 in
theorem lc_save (l : Launch) (h : jH) (t : Int) (i : Nat) (hI : IC h h t) (hj : ∀ q, jr (h 1000000 q)) (hi6 : (i : Int) + 6 ≤ h 1000001 0) (hn : h 1000001 0 ≤ 3072) (P : Option Value → jH → Prop) (hx : ∀ h2, IC h2 h2 (t + 1) → h2 1000000 = h 1000000 → h2 1000001 = h 1000001 → jT l 359 1679 [some (.ref 1000000), some (.ref 0), some (.ref 388), some (.int (jI (i : Int)))] [] h2 P) : jT l 359 1531 [some (.ref 1000000), some (.ref 0), some (.ref 388), some (.int (jI (i : Int)))] [] h P := by
  have hi9 := hi6
  refine tl_aload_n rfl rfl ?_
  refine tl_aload_n rfl rfl ?_
  refine tl_iload_n rfl rfl ?_
  refine tl_iconst rfl ?_
  refine tl_iadd rfl ?_
  refine tl_iald_sc rfl (by omega) (by omega) hn ?_
  refine tl_aload_n rfl rfl ?_
  refine tl_iload_n rfl rfl ?_
  refine tl_iconst rfl ?_
  refine tl_iadd rfl ?_
  refine tl_iald_sc rfl (by omega) (by omega) hn ?_
  show jT _ _ 1542 _ _ _ _
  refine tl_v2i (c9 := 11) (k_save l h (Tz h) t (h 1000000 ((i : Int) + 1).toNat) (h 1000000 ((i : Int) + 2).toNat) hI.z (hj _) (hj _)) rfl rfl rfl rfl rfl (Nat.le_of_ble_eq_true rfl) (fun z1 h1 p1 => ?_)
  have x1 : ∀ x, 388 ≤ x → h1 x = h x := p1.2.2
  have e1 : h1 1000000 = h 1000000 := x1 1000000 (by decide)
  have e2 : h1 1000001 = h 1000001 := x1 1000001 (by decide)
  show jT _ _ 1545 _ _ _ _
  refine tl_aload_n rfl rfl ?_
  refine tl_aload_n rfl rfl ?_
  refine tl_iload_n rfl rfl ?_
  refine tl_iconst rfl ?_
  refine tl_iadd rfl ?_
  refine tl_iald_sc rfl (by omega) (by rw [e2]; omega) (by rw [e2]; exact hn) ?_
  rw [e1]
  refine tl_aload_n rfl rfl ?_
  refine tl_iload_n rfl rfl ?_
  refine tl_iconst rfl ?_
  refine tl_iadd rfl ?_
  refine tl_iald_sc rfl (by omega) (by rw [e2]; omega) (by rw [e2]; exact hn) ?_
  rw [e1]
  show jT _ _ 1556 _ _ _ _
  refine tl_v2i (c9 := 12) (r_save l h h1 t (h 1000000 ((i : Int) + 1).toNat) (h 1000000 ((i : Int) + 2).toNat) (hI.ag (fun _ _ => rfl) (fun x hx9 => x1 x hx9)) (hj _) (hj _)) rfl rfl rfl rfl rfl (Nat.le_of_ble_eq_true rfl) (fun z2 h2 p2 => ?_)
  have g := G_kr (h := h) (h1 := h1) (h2 := h2) (t := t) (z1 := z1) (z2 := z2) (D := fun s => Dsave s (h 1000000 ((i : Int) + 1).toNat) (h 1000000 ((i : Int) + 2).toNat)) (fun s s' a => Ag.save a (h 1000000 ((i : Int) + 1).toNat) (h 1000000 ((i : Int) + 2).toNat)) (fun s => Kq.rfl9) p1 p2
  rw [g.1]
  exact tl_icmp_same (tgt := 1679) rfl rfl (hx h2 g.2.1 g.2.2.1 g.2.2.2)
set_option maxRecDepth 20000 in
set_option maxHeartbeats 1000000 in
theorem lc_listed (l : Launch) (h : jH) (t : Int) (i : Nat) (hI : IC h h t) (hj : ∀ q, jr (h 1000000 q)) (hi6 : (i : Int) + 6 ≤ h 1000001 0) (hn : h 1000001 0 ≤ 3072) (P : Option Value → jH → Prop) (hx : ∀ h2, IC h2 h2 (t + 1) → h2 1000000 = h 1000000 → h2 1000001 = h 1000001 → jT l 359 1679 [some (.ref 1000000), some (.ref 0), some (.ref 388), some (.int (jI (i : Int)))] [] h2 P) : jT l 359 1564 [some (.ref 1000000), some (.ref 0), some (.ref 388), some (.int (jI (i : Int)))] [] h P := by
  have hi9 := hi6
  refine tl_aload_n rfl rfl ?_
  refine tl_aload_n rfl rfl ?_
  refine tl_iload_n rfl rfl ?_
  refine tl_iconst rfl ?_
  refine tl_iadd rfl ?_
  refine tl_iald_sc rfl (by omega) (by omega) hn ?_
  show jT _ _ 1570 _ _ _ _
  refine tl_v1i (c9 := 11) (k_listed l h (Tz h) t (h 1000000 ((i : Int) + 1).toNat) hI.z (hj _)) rfl rfl rfl rfl rfl (Nat.le_of_ble_eq_true rfl) (fun z1 h1 p1 => ?_)
  have x1 : ∀ x, 388 ≤ x → h1 x = h x := p1.2.2
  have e1 : h1 1000000 = h 1000000 := x1 1000000 (by decide)
  have e2 : h1 1000001 = h 1000001 := x1 1000001 (by decide)
  show jT _ _ 1573 _ _ _ _
  refine tl_aload_n rfl rfl ?_
  refine tl_aload_n rfl rfl ?_
  refine tl_iload_n rfl rfl ?_
  refine tl_iconst rfl ?_
  refine tl_iadd rfl ?_
  refine tl_iald_sc rfl (by omega) (by rw [e2]; omega) (by rw [e2]; exact hn) ?_
  rw [e1]
  show jT _ _ 1579 _ _ _ _
  refine tl_v1i (c9 := 12) (r_listed l h h1 t (h 1000000 ((i : Int) + 1).toNat) (hI.ag (fun _ _ => rfl) (fun x hx9 => x1 x hx9)) (hj _)) rfl rfl rfl rfl rfl (Nat.le_of_ble_eq_true rfl) (fun z2 h2 p2 => ?_)
  have g := G_kr (h := h) (h1 := h1) (h2 := h2) (t := t) (z1 := z1) (z2 := z2) (D := fun s => Dlisted s (h 1000000 ((i : Int) + 1).toNat)) (fun s s' a => Ag.listed a (h 1000000 ((i : Int) + 1).toNat)) (fun s => Kq.rfl9) p1 p2
  rw [g.1]
  exact tl_icmp_same (tgt := 1679) rfl rfl (hx h2 g.2.1 g.2.2.1 g.2.2.2)
set_option maxRecDepth 20000 in
set_option maxHeartbeats 1000000 in
theorem lc_listing (l : Launch) (h : jH) (t : Int) (i : Nat) (hI : IC h h t) (hj : ∀ q, jr (h 1000000 q)) (hi6 : (i : Int) + 6 ≤ h 1000001 0) (hn : h 1000001 0 ≤ 3072) (P : Option Value → jH → Prop) (hx : ∀ h2, IC h2 h2 (t + 1) → h2 1000000 = h 1000000 → h2 1000001 = h 1000001 → jT l 359 1679 [some (.ref 1000000), some (.ref 0), some (.ref 388), some (.int (jI (i : Int)))] [] h2 P) : jT l 359 1587 [some (.ref 1000000), some (.ref 0), some (.ref 388), some (.int (jI (i : Int)))] [] h P := by
  have hi9 := hi6
  refine tl_aload_n rfl rfl ?_
  refine tl_aload_n rfl rfl ?_
  refine tl_iload_n rfl rfl ?_
  refine tl_iconst rfl ?_
  refine tl_iadd rfl ?_
  refine tl_iald_sc rfl (by omega) (by omega) hn ?_
  refine tl_aload_n rfl rfl ?_
  refine tl_iload_n rfl rfl ?_
  refine tl_iconst rfl ?_
  refine tl_iadd rfl ?_
  refine tl_iald_sc rfl (by omega) (by omega) hn ?_
  show jT _ _ 1598 _ _ _ _
  refine tl_v2i (c9 := 11) (k_listing l h (Tz h) t (h 1000000 ((i : Int) + 1).toNat) (h 1000000 ((i : Int) + 2).toNat) hI.z (hj _) (hj _)) rfl rfl rfl rfl rfl (Nat.le_of_ble_eq_true rfl) (fun z1 h1 p1 => ?_)
  have x1 : ∀ x, 388 ≤ x → h1 x = h x := p1.2.2
  have e1 : h1 1000000 = h 1000000 := x1 1000000 (by decide)
  have e2 : h1 1000001 = h 1000001 := x1 1000001 (by decide)
  show jT _ _ 1601 _ _ _ _
  refine tl_aload_n rfl rfl ?_
  refine tl_aload_n rfl rfl ?_
  refine tl_iload_n rfl rfl ?_
  refine tl_iconst rfl ?_
  refine tl_iadd rfl ?_
  refine tl_iald_sc rfl (by omega) (by rw [e2]; omega) (by rw [e2]; exact hn) ?_
  rw [e1]
  refine tl_aload_n rfl rfl ?_
  refine tl_iload_n rfl rfl ?_
  refine tl_iconst rfl ?_
  refine tl_iadd rfl ?_
  refine tl_iald_sc rfl (by omega) (by rw [e2]; omega) (by rw [e2]; exact hn) ?_
  rw [e1]
  show jT _ _ 1612 _ _ _ _
  refine tl_v2i (c9 := 12) (r_listing l h h1 t (h 1000000 ((i : Int) + 1).toNat) (h 1000000 ((i : Int) + 2).toNat) (hI.ag (fun _ _ => rfl) (fun x hx9 => x1 x hx9)) (hj _) (hj _)) rfl rfl rfl rfl rfl (Nat.le_of_ble_eq_true rfl) (fun z2 h2 p2 => ?_)
  have g := G_kr (h := h) (h1 := h1) (h2 := h2) (t := t) (z1 := z1) (z2 := z2) (D := fun s => Dlisting s (h 1000000 ((i : Int) + 1).toNat) (h 1000000 ((i : Int) + 2).toNat)) (fun s s' a => Ag.listing a (h 1000000 ((i : Int) + 1).toNat) (h 1000000 ((i : Int) + 2).toNat)) (fun s => Kq.rfl9) p1 p2
  rw [g.1]
  exact tl_icmp_same (tgt := 1679) rfl rfl (hx h2 g.2.1 g.2.2.1 g.2.2.2)
set_option maxRecDepth 20000 in
set_option maxHeartbeats 1000000 in
theorem lc_best (l : Launch) (h : jH) (t : Int) (i : Nat) (hI : IC h h t) (hj : ∀ q, jr (h 1000000 q)) (hi6 : (i : Int) + 6 ≤ h 1000001 0) (hn : h 1000001 0 ≤ 3072) (P : Option Value → jH → Prop) (hx : ∀ h2, IC h2 h2 (t + 1) → h2 1000000 = h 1000000 → h2 1000001 = h 1000001 → jT l 359 1679 [some (.ref 1000000), some (.ref 0), some (.ref 388), some (.int (jI (i : Int)))] [] h2 P) : jT l 359 1620 [some (.ref 1000000), some (.ref 0), some (.ref 388), some (.int (jI (i : Int)))] [] h P := by
  have hi9 := hi6
  refine tl_aload_n rfl rfl ?_
  refine tl_aload_n rfl rfl ?_
  refine tl_iload_n rfl rfl ?_
  refine tl_iconst rfl ?_
  refine tl_iadd rfl ?_
  refine tl_iald_sc rfl (by omega) (by omega) hn ?_
  show jT _ _ 1626 _ _ _ _
  refine tl_v1i (c9 := 11) (k_best l h (Tz h) t (h 1000000 ((i : Int) + 1).toNat) hI.z (hj _)) rfl rfl rfl rfl rfl (Nat.le_of_ble_eq_true rfl) (fun z1 h1 p1 => ?_)
  have x1 : ∀ x, 388 ≤ x → h1 x = h x := p1.2.2
  have e1 : h1 1000000 = h 1000000 := x1 1000000 (by decide)
  have e2 : h1 1000001 = h 1000001 := x1 1000001 (by decide)
  show jT _ _ 1629 _ _ _ _
  refine tl_aload_n rfl rfl ?_
  refine tl_aload_n rfl rfl ?_
  refine tl_iload_n rfl rfl ?_
  refine tl_iconst rfl ?_
  refine tl_iadd rfl ?_
  refine tl_iald_sc rfl (by omega) (by rw [e2]; omega) (by rw [e2]; exact hn) ?_
  rw [e1]
  show jT _ _ 1635 _ _ _ _
  refine tl_v1i (c9 := 12) (r_best l h h1 t (h 1000000 ((i : Int) + 1).toNat) (hI.ag (fun _ _ => rfl) (fun x hx9 => x1 x hx9)) (hj _)) rfl rfl rfl rfl rfl (Nat.le_of_ble_eq_true rfl) (fun z2 h2 p2 => ?_)
  have g := G_kr (h := h) (h1 := h1) (h2 := h2) (t := t) (z1 := z1) (z2 := z2) (D := fun s => Dbest s (h 1000000 ((i : Int) + 1).toNat)) (fun s s' a => Ag.best a (h 1000000 ((i : Int) + 1).toNat)) (fun s => Kq.rfl9) p1 p2
  rw [g.1]
  exact tl_icmp_same (tgt := 1679) rfl rfl (hx h2 g.2.1 g.2.2.1 g.2.2.2)
set_option maxRecDepth 20000 in
set_option maxHeartbeats 1000000 in
theorem lc_count (l : Launch) (h : jH) (t : Int) (i : Nat) (hI : IC h h t) (hj : ∀ q, jr (h 1000000 q)) (hi6 : (i : Int) + 6 ≤ h 1000001 0) (hn : h 1000001 0 ≤ 3072) (P : Option Value → jH → Prop) (hx : ∀ h2, IC h2 h2 (t + 1) → h2 1000000 = h 1000000 → h2 1000001 = h 1000001 → jT l 359 1679 [some (.ref 1000000), some (.ref 0), some (.ref 388), some (.int (jI (i : Int)))] [] h2 P) : jT l 359 1643 [some (.ref 1000000), some (.ref 0), some (.ref 388), some (.int (jI (i : Int)))] [] h P := by
  have hi9 := hi6
  refine tl_aload_n rfl rfl ?_
  refine tl_aload_n rfl rfl ?_
  refine tl_iload_n rfl rfl ?_
  refine tl_iconst rfl ?_
  refine tl_iadd rfl ?_
  refine tl_iald_sc rfl (by omega) (by omega) hn ?_
  show jT _ _ 1649 _ _ _ _
  refine tl_v1i (c9 := 11) (k_count l h (Tz h) t (h 1000000 ((i : Int) + 1).toNat) hI.z (hj _)) rfl rfl rfl rfl rfl (Nat.le_of_ble_eq_true rfl) (fun z1 h1 p1 => ?_)
  have x1 : ∀ x, 388 ≤ x → h1 x = h x := p1.2.2
  have e1 : h1 1000000 = h 1000000 := x1 1000000 (by decide)
  have e2 : h1 1000001 = h 1000001 := x1 1000001 (by decide)
  show jT _ _ 1652 _ _ _ _
  refine tl_aload_n rfl rfl ?_
  refine tl_aload_n rfl rfl ?_
  refine tl_iload_n rfl rfl ?_
  refine tl_iconst rfl ?_
  refine tl_iadd rfl ?_
  refine tl_iald_sc rfl (by omega) (by rw [e2]; omega) (by rw [e2]; exact hn) ?_
  rw [e1]
  show jT _ _ 1658 _ _ _ _
  refine tl_v1i (c9 := 12) (r_count l h h1 t (h 1000000 ((i : Int) + 1).toNat) (hI.ag (fun _ _ => rfl) (fun x hx9 => x1 x hx9)) (hj _)) rfl rfl rfl rfl rfl (Nat.le_of_ble_eq_true rfl) (fun z2 h2 p2 => ?_)
  have g := G_kr (h := h) (h1 := h1) (h2 := h2) (t := t) (z1 := z1) (z2 := z2) (D := fun s => Dcount s (h 1000000 ((i : Int) + 1).toNat)) (fun s s' a => Ag.count a (h 1000000 ((i : Int) + 1).toNat)) (fun s => Kq.rfl9) p1 p2
  rw [g.1]
  exact tl_icmp_same (tgt := 1679) rfl rfl (hx h2 g.2.1 g.2.2.1 g.2.2.2)
set_option maxRecDepth 20000 in
set_option maxHeartbeats 1000000 in
theorem lc_status (l : Launch) (h : jH) (t : Int) (i : Nat) (hI : IC h h t) (hj : ∀ q, jr (h 1000000 q)) (hi6 : (i : Int) + 6 ≤ h 1000001 0) (hn : h 1000001 0 ≤ 3072) (P : Option Value → jH → Prop) (hx : ∀ h2, IC h2 h2 (t + 1) → h2 1000000 = h 1000000 → h2 1000001 = h 1000001 → jT l 359 1679 [some (.ref 1000000), some (.ref 0), some (.ref 388), some (.int (jI (i : Int)))] [] h2 P) : jT l 359 1666 [some (.ref 1000000), some (.ref 0), some (.ref 388), some (.int (jI (i : Int)))] [] h P := by
  have hi9 := hi6
  refine tl_aload_n rfl rfl ?_
  show jT _ _ 1667 _ _ _ _
  refine tl_v0i (c9 := 11) (k_status l h h t  hI ) rfl rfl rfl rfl rfl (Nat.le_of_ble_eq_true rfl) (fun z1 h1 p1 => ?_)
  obtain ⟨q1, p1⟩ := p1
  have q1 := q1.symm
  subst q1
  show jT _ _ 1670 _ _ _ _
  refine tl_aload_n rfl rfl ?_
  show jT _ _ 1671 _ _ _ _
  refine tl_v0i (c9 := 12) (r_status l h  ) rfl rfl rfl rfl rfl (Nat.le_of_ble_eq_true rfl) (fun z2 h2 p2 => ?_)
  obtain ⟨q2, p2⟩ := p2
  have g := G_rd hI (show h2 = Tz h from q2)
  have ez : z2 = z1 := by rw [p1, p2]
  rw [ez]
  exact tl_icmp_same (tgt := 1679) rfl rfl (hx h2 g.1 g.2.1 g.2.2)
set_option maxRecDepth 20000 in
set_option maxHeartbeats 4000000 in
theorem lw_sw (l : Launch) (h : jH) (t : Int) (i : Nat) (hI : IC h h t) (hj : ∀ q, jr (h 1000000 q)) (hi6 : (i : Int) + 6 ≤ h 1000001 0) (hn : h 1000001 0 ≤ 3072) (P : Option Value → jH → Prop) (hx : ∀ h2, IC h2 h2 (t + 1) → h2 1000000 = h 1000000 → h2 1000001 = h 1000001 → jT l 359 1679 [some (.ref 1000000), some (.ref 0), some (.ref 388), some (.int (jI (i : Int)))] [] h2 P) : jT l 359 33 [some (.ref 1000000), some (.ref 0), some (.ref 388), some (.int (jI (i : Int)))] [.int (jI (h 1000000 i % 64))] h P := by
  by_cases c0 : h 1000000 i % 64 < 0 ∨ 52 < h 1000000 i % 64
  · exact tl_tabO (tgt := 1679) rfl ⟨by omega, by omega⟩ c0 rfl (hx h (hI.mono (by omega)) rfl rfl)
  · skip
    by_cases b0_52 : h 1000000 i % 64 ≤ 26
    · skip
      by_cases b0_26 : h 1000000 i % 64 ≤ 13
      · skip
        by_cases b0_13 : h 1000000 i % 64 ≤ 6
        · skip
          by_cases b0_6 : h 1000000 i % 64 ≤ 3
          · skip
            by_cases b0_3 : h 1000000 i % 64 ≤ 1
            · skip
              by_cases b0_1 : h 1000000 i % 64 ≤ 0
              · skip
                have e9 : h 1000000 i % 64 = 0 := by omega
                exact tl_tabI (off := 227) (tgt := 260) rfl ⟨by omega, by omega⟩ (by omega) (by omega) (by rw [e9]; rfl) rfl (lc_size l h t i hI hj (by omega) hn P hx)
              · skip
                have e9 : h 1000000 i % 64 = 1 := by omega
                exact tl_tabI (off := 250) (tgt := 283) rfl ⟨by omega, by omega⟩ (by omega) (by omega) (by rw [e9]; rfl) rfl (lc_byteOf l h t i hI hj (by omega) hn P hx)
            · skip
              by_cases b2_3 : h 1000000 i % 64 ≤ 2
              · skip
                have e9 : h 1000000 i % 64 = 2 := by omega
                exact tl_tabI (off := 283) (tgt := 316) rfl ⟨by omega, by omega⟩ (by omega) (by omega) (by rw [e9]; rfl) rfl (lc_length l h t i hI hj (by omega) hn P hx)
              · skip
                have e9 : h 1000000 i % 64 = 3 := by omega
                exact tl_tabI (off := 306) (tgt := 339) rfl ⟨by omega, by omega⟩ (by omega) (by omega) (by rw [e9]; rfl) rfl (lc_patch l h t i hI hj (by omega) hn P hx)
          · skip
            by_cases b4_6 : h 1000000 i % 64 ≤ 5
            · skip
              by_cases b4_5 : h 1000000 i % 64 ≤ 4
              · skip
                have e9 : h 1000000 i % 64 = 4 := by omega
                exact tl_tabI (off := 339) (tgt := 372) rfl ⟨by omega, by omega⟩ (by omega) (by omega) (by rw [e9]; rfl) rfl (lc_terms l h t i hI hj (by omega) hn P hx)
              · skip
                have e9 : h 1000000 i % 64 = 5 := by omega
                exact tl_tabI (off := 372) (tgt := 405) rfl ⟨by omega, by omega⟩ (by omega) (by omega) (by rw [e9]; rfl) rfl (lc_feed l h t i hI hj (by omega) hn P hx)
            · skip
              have e9 : h 1000000 i % 64 = 6 := by omega
              exact tl_tabI (off := 435) (tgt := 468) rfl ⟨by omega, by omega⟩ (by omega) (by omega) (by rw [e9]; rfl) rfl (lc_end l h t i hI hj (by omega) hn P hx)
        · skip
          by_cases b7_13 : h 1000000 i % 64 ≤ 10
          · skip
            by_cases b7_10 : h 1000000 i % 64 ≤ 8
            · skip
              by_cases b7_8 : h 1000000 i % 64 ≤ 7
              · skip
                have e9 : h 1000000 i % 64 = 7 := by omega
                exact tl_tabI (off := 458) (tgt := 491) rfl ⟨by omega, by omega⟩ (by omega) (by omega) (by rw [e9]; rfl) rfl (lc_file l h t i hI hj (by omega) hn P hx)
              · skip
                have e9 : h 1000000 i % 64 = 8 := by omega
                exact tl_tabI (off := 481) (tgt := 514) rfl ⟨by omega, by omega⟩ (by omega) (by omega) (by rw [e9]; rfl) rfl (lc_bring l h t i hI hj (by omega) hn P hx)
            · skip
              by_cases b9_10 : h 1000000 i % 64 ≤ 9
              · skip
                have e9 : h 1000000 i % 64 = 9 := by omega
                exact tl_tabI (off := 504) (tgt := 537) rfl ⟨by omega, by omega⟩ (by omega) (by omega) (by rw [e9]; rfl) rfl (lc_bar l h t i hI hj (by omega) hn P hx)
              · skip
                have e9 : h 1000000 i % 64 = 10 := by omega
                exact tl_tabI (off := 537) (tgt := 570) rfl ⟨by omega, by omega⟩ (by omega) (by omega) (by rw [e9]; rfl) rfl (lc_recipe l h t i hI hj (by omega) hn P hx)
          · skip
            by_cases b11_13 : h 1000000 i % 64 ≤ 12
            · skip
              by_cases b11_12 : h 1000000 i % 64 ≤ 11
              · skip
                have e9 : h 1000000 i % 64 = 11 := by omega
                exact tl_tabI (off := 560) (tgt := 593) rfl ⟨by omega, by omega⟩ (by omega) (by omega) (by rw [e9]; rfl) rfl (lc_fault l h t i hI hj (by omega) hn P hx)
              · skip
                have e9 : h 1000000 i % 64 = 12 := by omega
                exact tl_tabI (off := 573) (tgt := 606) rfl ⟨by omega, by omega⟩ (by omega) (by omega) (by rw [e9]; rfl) rfl (lc_stopped l h t i hI hj (by omega) hn P hx)
            · skip
              have e9 : h 1000000 i % 64 = 13 := by omega
              exact tl_tabI (off := 586) (tgt := 619) rfl ⟨by omega, by omega⟩ (by omega) (by omega) (by rw [e9]; rfl) rfl (lc_set l h t i hI hj (by omega) hn P hx)
      · skip
        by_cases b14_26 : h 1000000 i % 64 ≤ 20
        · skip
          by_cases b14_20 : h 1000000 i % 64 ≤ 17
          · skip
            by_cases b14_17 : h 1000000 i % 64 ≤ 15
            · skip
              by_cases b14_15 : h 1000000 i % 64 ≤ 14
              · skip
                have e9 : h 1000000 i % 64 = 14 := by omega
                exact tl_tabI (off := 619) (tgt := 652) rfl ⟨by omega, by omega⟩ (by omega) (by omega) (by rw [e9]; rfl) rfl (lc_cut l h t i hI hj (by omega) hn P hx)
              · skip
                have e9 : h 1000000 i % 64 = 15 := by omega
                exact tl_tabI (off := 652) (tgt := 685) rfl ⟨by omega, by omega⟩ (by omega) (by omega) (by rw [e9]; rfl) rfl (lc_put l h t i hI hj (by omega) hn P hx)
            · skip
              by_cases b16_17 : h 1000000 i % 64 ≤ 16
              · skip
                have e9 : h 1000000 i % 64 = 16 := by omega
                exact tl_tabI (off := 685) (tgt := 718) rfl ⟨by omega, by omega⟩ (by omega) (by omega) (by rw [e9]; rfl) rfl (lc_move l h t i hI hj (by omega) hn P hx)
              · skip
                have e9 : h 1000000 i % 64 = 17 := by omega
                exact tl_tabI (off := 728) (tgt := 761) rfl ⟨by omega, by omega⟩ (by omega) (by omega) (by rw [e9]; rfl) rfl (lc_make l h t i hI hj (by omega) hn P hx)
          · skip
            by_cases b18_20 : h 1000000 i % 64 ≤ 19
            · skip
              by_cases b18_19 : h 1000000 i % 64 ≤ 18
              · skip
                have e9 : h 1000000 i % 64 = 18 := by omega
                exact tl_tabI (off := 751) (tgt := 784) rfl ⟨by omega, by omega⟩ (by omega) (by omega) (by rw [e9]; rfl) rfl (lc_join l h t i hI hj (by omega) hn P hx)
              · skip
                have e9 : h 1000000 i % 64 = 19 := by omega
                exact tl_tabI (off := 794) (tgt := 827) rfl ⟨by omega, by omega⟩ (by omega) (by omega) (by rw [e9]; rfl) rfl (lc_turn l h t i hI hj (by omega) hn P hx)
            · skip
              have e9 : h 1000000 i % 64 = 20 := by omega
              exact tl_tabI (off := 827) (tgt := 860) rfl ⟨by omega, by omega⟩ (by omega) (by omega) (by rw [e9]; rfl) rfl (lc_apply l h t i hI hj (by omega) hn P hx)
        · skip
          by_cases b21_26 : h 1000000 i % 64 ≤ 23
          · skip
            by_cases b21_23 : h 1000000 i % 64 ≤ 22
            · skip
              by_cases b21_22 : h 1000000 i % 64 ≤ 21
              · skip
                have e9 : h 1000000 i % 64 = 21 := by omega
                exact tl_tabI (off := 850) (tgt := 883) rfl ⟨by omega, by omega⟩ (by omega) (by omega) (by rw [e9]; rfl) rfl (lc_flaw l h t i hI hj (by omega) hn P hx)
              · skip
                have e9 : h 1000000 i % 64 = 22 := by omega
                exact tl_tabI (off := 863) (tgt := 896) rfl ⟨by omega, by omega⟩ (by omega) (by omega) (by rw [e9]; rfl) rfl (lc_loaded l h t i hI hj (by omega) hn P hx)
            · skip
              have e9 : h 1000000 i % 64 = 23 := by omega
              exact tl_tabI (off := 886) (tgt := 919) rfl ⟨by omega, by omega⟩ (by omega) (by omega) (by rw [e9]; rfl) rfl (lc_begin l h t i hI hj (by omega) hn P hx)
          · skip
            by_cases b24_26 : h 1000000 i % 64 ≤ 25
            · skip
              by_cases b24_25 : h 1000000 i % 64 ≤ 24
              · skip
                have e9 : h 1000000 i % 64 = 24 := by omega
                exact tl_tabI (off := 909) (tgt := 942) rfl ⟨by omega, by omega⟩ (by omega) (by omega) (by rw [e9]; rfl) rfl (lc_write l h t i hI hj (by omega) hn P hx)
              · skip
                have e9 : h 1000000 i % 64 = 25 := by omega
                exact tl_tabI (off := 932) (tgt := 965) rfl ⟨by omega, by omega⟩ (by omega) (by omega) (by rw [e9]; rfl) rfl (lc_left l h t i hI hj (by omega) hn P hx)
            · skip
              have e9 : h 1000000 i % 64 = 26 := by omega
              exact tl_tabI (off := 945) (tgt := 978) rfl ⟨by omega, by omega⟩ (by omega) (by omega) (by rw [e9]; rfl) rfl (lc_spoil l h t i hI hj (by omega) hn P hx)
    · skip
      by_cases b27_52 : h 1000000 i % 64 ≤ 39
      · skip
        by_cases b27_39 : h 1000000 i % 64 ≤ 33
        · skip
          by_cases b27_33 : h 1000000 i % 64 ≤ 30
          · skip
            by_cases b27_30 : h 1000000 i % 64 ≤ 28
            · skip
              by_cases b27_28 : h 1000000 i % 64 ≤ 27
              · skip
                have e9 : h 1000000 i % 64 = 27 := by omega
                exact tl_tabI (off := 988) (tgt := 1021) rfl ⟨by omega, by omega⟩ (by omega) (by omega) (by rw [e9]; rfl) rfl (lc_seal l h t i hI hj (by omega) hn P hx)
              · skip
                have e9 : h 1000000 i % 64 = 28 := by omega
                exact tl_tabI (off := 1011) (tgt := 1044) rfl ⟨by omega, by omega⟩ (by omega) (by omega) (by rw [e9]; rfl) rfl (lc_drop l h t i hI hj (by omega) hn P hx)
            · skip
              by_cases b29_30 : h 1000000 i % 64 ≤ 29
              · skip
                have e9 : h 1000000 i % 64 = 29 := by omega
                exact tl_tabI (off := 1034) (tgt := 1067) rfl ⟨by omega, by omega⟩ (by omega) (by omega) (by rw [e9]; rfl) rfl (lc_swap l h t i hI hj (by omega) hn P hx)
              · skip
                have e9 : h 1000000 i % 64 = 30 := by omega
                exact tl_tabI (off := 1047) (tgt := 1080) rfl ⟨by omega, by omega⟩ (by omega) (by omega) (by rw [e9]; rfl) rfl (lc_advance l h t i hI hj (by omega) hn P hx)
          · skip
            by_cases b31_33 : h 1000000 i % 64 ≤ 32
            · skip
              by_cases b31_32 : h 1000000 i % 64 ≤ 31
              · skip
                have e9 : h 1000000 i % 64 = 31 := by omega
                exact tl_tabI (off := 1060) (tgt := 1093) rfl ⟨by omega, by omega⟩ (by omega) (by omega) (by rw [e9]; rfl) rfl (lc_undo l h t i hI hj (by omega) hn P hx)
              · skip
                have e9 : h 1000000 i % 64 = 32 := by omega
                exact tl_tabI (off := 1073) (tgt := 1106) rfl ⟨by omega, by omega⟩ (by omega) (by omega) (by rw [e9]; rfl) rfl (lc_sorted l h t i hI hj (by omega) hn P hx)
            · skip
              have e9 : h 1000000 i % 64 = 33 := by omega
              exact tl_tabI (off := 1106) (tgt := 1139) rfl ⟨by omega, by omega⟩ (by omega) (by omega) (by rw [e9]; rfl) rfl (lc_kinds l h t i hI hj (by omega) hn P hx)
        · skip
          by_cases b34_39 : h 1000000 i % 64 ≤ 36
          · skip
            by_cases b34_36 : h 1000000 i % 64 ≤ 35
            · skip
              by_cases b34_35 : h 1000000 i % 64 ≤ 34
              · skip
                have e9 : h 1000000 i % 64 = 34 := by omega
                exact tl_tabI (off := 1129) (tgt := 1162) rfl ⟨by omega, by omega⟩ (by omega) (by omega) (by rw [e9]; rfl) rfl (lc_repeated l h t i hI hj (by omega) hn P hx)
              · skip
                have e9 : h 1000000 i % 64 = 35 := by omega
                exact tl_tabI (off := 1152) (tgt := 1185) rfl ⟨by omega, by omega⟩ (by omega) (by omega) (by rw [e9]; rfl) rfl (lc_match l h t i hI hj (by omega) hn P hx)
            · skip
              have e9 : h 1000000 i % 64 = 36 := by omega
              exact tl_tabI (off := 1185) (tgt := 1218) rfl ⟨by omega, by omega⟩ (by omega) (by omega) (by rw [e9]; rfl) rfl (lc_anchor l h t i hI hj (by omega) hn P hx)
          · skip
            by_cases b37_39 : h 1000000 i % 64 ≤ 38
            · skip
              by_cases b37_38 : h 1000000 i % 64 ≤ 37
              · skip
                have e9 : h 1000000 i % 64 = 37 := by omega
                exact tl_tabI (off := 1218) (tgt := 1251) rfl ⟨by omega, by omega⟩ (by omega) (by omega) (by rw [e9]; rfl) rfl (lc_origin l h t i hI hj (by omega) hn P hx)
              · skip
                have e9 : h 1000000 i % 64 = 38 := by omega
                exact tl_tabI (off := 1251) (tgt := 1284) rfl ⟨by omega, by omega⟩ (by omega) (by omega) (by rw [e9]; rfl) rfl (lc_parts l h t i hI hj (by omega) hn P hx)
            · skip
              have e9 : h 1000000 i % 64 = 39 := by omega
              exact tl_tabI (off := 1274) (tgt := 1307) rfl ⟨by omega, by omega⟩ (by omega) (by omega) (by rw [e9]; rfl) rfl (lc_part l h t i hI hj (by omega) hn P hx)
      · skip
        by_cases b40_52 : h 1000000 i % 64 ≤ 46
        · skip
          by_cases b40_46 : h 1000000 i % 64 ≤ 43
          · skip
            by_cases b40_43 : h 1000000 i % 64 ≤ 41
            · skip
              by_cases b40_41 : h 1000000 i % 64 ≤ 40
              · skip
                have e9 : h 1000000 i % 64 = 40 := by omega
                exact tl_tabI (off := 1317) (tgt := 1350) rfl ⟨by omega, by omega⟩ (by omega) (by omega) (by rw [e9]; rfl) rfl (lc_way l h t i hI hj (by omega) hn P hx)
              · skip
                have e9 : h 1000000 i % 64 = 41 := by omega
                exact tl_tabI (off := 1350) (tgt := 1383) rfl ⟨by omega, by omega⟩ (by omega) (by omega) (by rw [e9]; rfl) rfl (lc_order l h t i hI hj (by omega) hn P hx)
            · skip
              by_cases b42_43 : h 1000000 i % 64 ≤ 42
              · skip
                have e9 : h 1000000 i % 64 = 42 := by omega
                exact tl_tabI (off := 1383) (tgt := 1416) rfl ⟨by omega, by omega⟩ (by omega) (by omega) (by rw [e9]; rfl) rfl (lc_dropped l h t i hI hj (by omega) hn P hx)
              · skip
                have e9 : h 1000000 i % 64 = 43 := by omega
                exact tl_tabI (off := 1416) (tgt := 1449) rfl ⟨by omega, by omega⟩ (by omega) (by omega) (by rw [e9]; rfl) rfl (lc_flawOf l h t i hI hj (by omega) hn P hx)
          · skip
            by_cases b44_46 : h 1000000 i % 64 ≤ 45
            · skip
              by_cases b44_45 : h 1000000 i % 64 ≤ 44
              · skip
                have e9 : h 1000000 i % 64 = 44 := by omega
                exact tl_tabI (off := 1439) (tgt := 1472) rfl ⟨by omega, by omega⟩ (by omega) (by omega) (by rw [e9]; rfl) rfl (lc_cheapest l h t i hI hj (by omega) hn P hx)
              · skip
                have e9 : h 1000000 i % 64 = 45 := by omega
                exact tl_tabI (off := 1462) (tgt := 1495) rfl ⟨by omega, by omega⟩ (by omega) (by omega) (by rw [e9]; rfl) rfl (lc_apart l h t i hI hj (by omega) hn P hx)
            · skip
              have e9 : h 1000000 i % 64 = 46 := by omega
              exact tl_tabI (off := 1475) (tgt := 1508) rfl ⟨by omega, by omega⟩ (by omega) (by omega) (by rw [e9]; rfl) rfl (lc_stay l h t i hI hj (by omega) hn P hx)
        · skip
          by_cases b47_52 : h 1000000 i % 64 ≤ 49
          · skip
            by_cases b47_49 : h 1000000 i % 64 ≤ 48
            · skip
              by_cases b47_48 : h 1000000 i % 64 ≤ 47
              · skip
                have e9 : h 1000000 i % 64 = 47 := by omega
                exact tl_tabI (off := 1498) (tgt := 1531) rfl ⟨by omega, by omega⟩ (by omega) (by omega) (by rw [e9]; rfl) rfl (lc_save l h t i hI hj (by omega) hn P hx)
              · skip
                have e9 : h 1000000 i % 64 = 48 := by omega
                exact tl_tabI (off := 1531) (tgt := 1564) rfl ⟨by omega, by omega⟩ (by omega) (by omega) (by rw [e9]; rfl) rfl (lc_listed l h t i hI hj (by omega) hn P hx)
            · skip
              have e9 : h 1000000 i % 64 = 49 := by omega
              exact tl_tabI (off := 1554) (tgt := 1587) rfl ⟨by omega, by omega⟩ (by omega) (by omega) (by rw [e9]; rfl) rfl (lc_listing l h t i hI hj (by omega) hn P hx)
          · skip
            by_cases b50_52 : h 1000000 i % 64 ≤ 51
            · skip
              by_cases b50_51 : h 1000000 i % 64 ≤ 50
              · skip
                have e9 : h 1000000 i % 64 = 50 := by omega
                exact tl_tabI (off := 1587) (tgt := 1620) rfl ⟨by omega, by omega⟩ (by omega) (by omega) (by rw [e9]; rfl) rfl (lc_best l h t i hI hj (by omega) hn P hx)
              · skip
                have e9 : h 1000000 i % 64 = 51 := by omega
                exact tl_tabI (off := 1610) (tgt := 1643) rfl ⟨by omega, by omega⟩ (by omega) (by omega) (by rw [e9]; rfl) rfl (lc_count l h t i hI hj (by omega) hn P hx)
            · skip
              have e9 : h 1000000 i % 64 = 52 := by omega
              exact tl_tabI (off := 1633) (tgt := 1666) rfl ⟨by omega, by omega⟩ (by omega) (by omega) (by rw [e9]; rfl) rfl (lc_status l h t i hI hj (by omega) hn P hx)
set_option maxRecDepth 20000 in
set_option maxHeartbeats 1000000 in
theorem lw_lp (l : Launch) (P : Option Value → jH → Prop) (hP : ∀ h, P (some (.int (jI 1))) h) : ∀ (m : Nat) (i : Nat) (h : jH) (t : Int), (h 1000001 0).toNat + 6 - i < m → IC h h t → (∀ q, jr (h 1000000 q)) → 0 ≤ h 1000001 0 → h 1000001 0 ≤ 3072 → i ≤ 4000 → jT l 359 18 [some (.ref 1000000), some (.ref 0), some (.ref 388), some (.int (jI (i : Int)))] [] h P := by
  intro m
  induction m with
  | zero => intro i h t hk; omega
  | succ m ih =>
    intro i h t hk hI hj h0 hn i9
    refine tl_iload_n rfl rfl ?_
    refine tl_aload_n rfl rfl ?_
    refine tl_alen_sc rfl h0 ?_
    refine tl_bipush rfl rfl ?_
    refine tl_isub rfl ?_
    show jT _ _ 24 _ _ _ _
    refine tl_icmp_gt (tgt := 1685) rfl rfl ⟨by omega, by omega⟩ ⟨by omega, by omega⟩ (fun c1 => ?_) (fun c1 => ?_)
    · refine tl_iconst rfl ?_
      show jT _ _ 1686 _ _ _ _
      exact tl_iret rfl (hP h)
    · show jT _ _ 27 _ _ _ _
      refine tl_aload_n rfl rfl ?_
      refine tl_iload_n rfl rfl ?_
      refine tl_iald_sc rfl (by omega) (by omega) hn ?_
      rw [Int.toNat_natCast]
      refine tl_bipush rfl rfl ?_
      refine tl_iand rfl (jI_and63 _) ?_
      show jT _ _ 33 _ _ _ _
      refine lw_sw l h t i hI hj (by omega) hn P (fun h2 i2 s1 s2 => ?_)
      refine tl_iinc rfl rfl rfl ?_
      refine tl_goto (tgt := 18) rfl rfl ?_
      refine jT.loc ?_ (ih (i + 6) h2 (t + 1) (by rw [s2]; omega) i2 (fun q => by rw [s1]; exact hj q) (by rw [s2]; exact h0) (by rw [s2]; exact hn) (by omega))
      rw [show ((i + 6 : Nat) : Int) = (i : Int) + 6 by omega]; rfl
