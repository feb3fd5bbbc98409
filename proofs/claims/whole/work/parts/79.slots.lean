/-! slots read, on both sides -/
def lsF (f : Nat → Int) : Nat → List Int
  | 0 => []
  | n + 1 => lsF f n ++ [f n]
theorem lsF_len {f : Nat → Int} : ∀ n, (lsF f n).length = n := by
  intro n
  induction n with
  | zero => rfl
  | succ n ih => rw [lsF, List.length_append, ih]; rfl
theorem lsF_gd {f : Nat → Int} : ∀ n i, i < n → (lsF f n).getD i 0 = f i := by
  intro n
  induction n with
  | zero => intro i hi; omega
  | succ n ih =>
    intro i hi
    rw [lsF]
    by_cases c : i < n
    · rw [gd_l (by rw [lsF_len]; exact c)]; exact ih i c
    · have e : i = n := by omega
      subst e
      rw [gd_r (by rw [lsF_len]; exact Nat.le_refl _), lsF_len, Nat.sub_self]; rfl
theorem lsF_B {f : Nat → Int} : ∀ n, (∀ i, i < n → byt (f i)) → LB (lsF f n) := by
  intro n
  induction n with
  | zero => intro _; exact LB.nil
  | succ n ih => intro h; exact (ih (fun i hi => h i (by omega))).app (LB.one (h n (by omega)))
def slL (R : Nat → Int) (k : Int) : List Int := lsF (fun i => R ((201 + 301 * k).toNat + i)) (R (200 + 301 * k).toNat).toNat
def sOk (R : Nat → Int) : Prop := ∀ k : Int, 0 ≤ k → k ≤ 2 → (R (200 + 301 * k).toNat = -1 ∨ (1 ≤ R (200 + 301 * k).toNat ∧ R (200 + 301 * k).toNat ≤ 300)) ∧ ∀ i : Nat, (i : Int) < R (200 + 301 * k).toNat → byt (R ((201 + 301 * k).toNat + i))
theorem IC.sok {h s : jH} {t : Int} (hI : IC h s t) : sOk (s 390) := fun k k0 k2 => hI.slot k0 k2
theorem RS.sok {h : jH} {R : Nat → Int} (hR : RS h 1 R) : sOk R := fun k k0 k2 => by
  have hF := hR.2.1 k.toNat (by omega)
  rw [show (200 + 301 * k.toNat : Nat) = (200 + 301 * k).toNat by omega] at hF
  refine ⟨hF.2.1, fun i hi => ?_⟩
  rw [show (201 + 301 * k).toNat + i = (200 + 301 * k).toNat + 1 + i by omega]
  exact (hF.2.2 i hi).2
theorem sOk.b {R : Nat → Int} (so : sOk R) {k : Int} (k0 : 0 ≤ k) (k2 : k ≤ 2) (n1 : R (200 + 301 * k).toNat ≠ -1) : LB (slL R k) ∧ ((slL R k).length : Int) = R (200 + 301 * k).toNat ∧ 1 ≤ (slL R k).length ∧ (slL R k).length ≤ 300 := by
  have a := so k k0 k2
  have b := a.1
  have e : (slL R k).length = (R (200 + 301 * k).toNat).toNat := lsF_len _
  exact ⟨lsF_B _ (fun i hi => a.2 i (by omega)), by omega, by omega, by omega⟩
theorem RS.sl {h : jH} {R : Nat → Int} (hR : RS h 1 R) {k : Int} (k0 : 0 ≤ k) (k2 : k ≤ 2) (n1 : R (200 + 301 * k).toNat ≠ -1) : RL h (9 + 2 * k.toNat) (10 + 2 * k.toNat) (slL R k) := by
  have hF := hR.2.1 k.toNat (by omega)
  have b := hR.sok.b k0 k2 n1
  rw [show (200 + 301 * k.toNat : Nat) = (200 + 301 * k).toNat by omega, show 1 + 8 + 2 * k.toNat = 9 + 2 * k.toNat by omega] at hF
  refine ⟨by rw [hF.1, if_neg n1, b.2.1], fun i hi => ?_⟩
  have c := (hF.2.2 i (by omega)).1
  rw [show 9 + 2 * k.toNat + 1 = 10 + 2 * k.toNat by omega] at c
  rw [c, slL, lsF_gd _ i (by have : (slL R k).length = (R (200 + 301 * k).toNat).toNat := lsF_len _; omega)]
  rw [show (201 + 301 * k).toNat + i = (200 + 301 * k).toNat + 1 + i by omega]
/-- a patch that can be read alone -/
def snd9 (R : Nat → Int) (k : Int) : Bool := decide (((0 ≤ k ∧ k ≤ 2) ∧ R (200 + 301 * k).toNat ≠ -1) ∧ rdF (slL R k) false R = 0)
theorem snd9_t {R : Nat → Int} {k : Int} (h : snd9 R k = true) : ((0 ≤ k ∧ k ≤ 2) ∧ R (200 + 301 * k).toNat ≠ -1) ∧ rdF (slL R k) false R = 0 := of_decide_eq_true h
theorem ptF_f (B : Nat → Int) (N : Nat) (os ns : Int) (p np : Nat) : 0 ≤ ptF B N os ns p np ∧ ptF B N os ns p np ≤ 5 := by
  by_cases c : ptF B N os ns p np = 0
  · omega
  · have := pfb B N os ns (p, np) c
    change ptF B N os ns p np = 3 ∨ ptF B N os ns p np = 5 at this
    omega
theorem rdF_b (V : List Int) (fo : Bool) (R : Nat → Int) : 0 ≤ rdF V fo R ∧ rdF V fo R ≤ 7 := by
  have a : 0 ≤ ckf V ∧ ckf V ≤ 2 := by unfold ckf; split; omega; split <;> omega
  have b : 0 ≤ hdF (TB V) (rN V) fo R ∧ hdF (TB V) (rN V) fo R ≤ 5 := by unfold hdF; repeat (first | omega | split)
  have c : 0 ≤ rPf V ∧ rPf V ≤ 5 := ptF_f _ _ _ _ _ _
  have d : 0 ≤ (r1 V).1 ∧ (r1 V).1 ≤ 5 := rwR_f _ _ _ _
  have e : 0 ≤ (r2 V).1 ∧ (r2 V).1 ≤ 5 := rwR_f _ _ _ _
  unfold rdF
  repeat (first | omega | split)
set_option maxRecDepth 20000 in
set_option maxHeartbeats 1000000 in
theorem k_isSound (l : Launch) (h : jH) (R : Nat → Int) (hR : RS h 1 R) (k : Int) (hk : jr k) : cI l 191 [.ref 0, .int (jI k)] h (fun z h' => z = zb (snd9 R k) ∧ (snd9 R k = true → RDP h' (slL R k)) ∧ (∀ x, (x < 339 ∨ 355 < x) → h' x = h x)) := by
  have k1 := hk.1
  have k2 := hk.2
  refine cI.ofZ rfl rfl ?_
  refine tl_aload_n rfl rfl ?_
  refine tl_iload_n rfl rfl ?_
  refine tl_v1i (c9 := 11) (k_isFull l _ _ hR k ⟨by omega, by omega⟩) rfl rfl rfl rfl rfl (Nat.le_of_ble_eq_true rfl) (fun zf hf9 pf => ?_)
  obtain ⟨qf, pf⟩ := pf
  have qf := qf.symm
  subst qf
  have bf : zf = 0 ∨ zf = 1 := by rw [pf]; split <;> omega
  refine tl_if_eq (tgt := 39) rfl rfl ⟨by omega, by omega⟩ (fun c1 => ?_) (fun c1 => ?_)
  · skip
    refine tl_iconst rfl ?_
    refine tl_iret rfl ?_
    -- leaf 0 at 40
    refine ⟨_, rfl, ?_⟩
    have e : snd9 R k = false := decide_eq_false (fun w => by rw [if_pos w.1] at pf; omega)
    rw [e]
    exact ⟨by decide, rfl, fun w => absurd w (by decide), fun _ _ => rfl⟩
  · show jT _ _ 8 _ _ _ _
    have cf : (0 ≤ k ∧ k ≤ 2) ∧ R (200 + 301 * k).toNat ≠ -1 := by
      by_cases c : (0 ≤ k ∧ k ≤ 2) ∧ R (200 + 301 * k).toNat ≠ -1
      · exact c
      · rw [if_neg c] at pf; omega
    have hS := RSs_S k.toNat (by omega)
    have sb := hR.sok.b cf.1.1 cf.1.2 cf.2
    show jT _ _ 8 _ _ _ _
    refine tl_aload_n rfl rfl ?_
    refine tl_getr (c := 11) (k9 := 13) (b := 339) rfl rfl rfl rfl ?_
    refine tl_aload_n rfl rfl ?_
    refine tl_getr (c := 11) (k9 := 0) (b := 1) rfl rfl rfl rfl ?_
    refine tl_getr (c := 9) (k9 := 3) (b := 8) rfl rfl rfl rfl ?_
    refine tl_iload_n rfl rfl ?_
    refine tl_aald (n := 3) rfl (Or.inl rfl) rfl (by omega) (by omega) (sr8 k.toNat (by omega)) ?_
    show jT _ _ 21 _ _ _ _
    refine tl_aload_n rfl rfl ?_
    refine tl_getr (c := 11) (k9 := 0) (b := 1) rfl rfl rfl rfl ?_
    refine tl_getr (c := 9) (k9 := 0) (b := 2) rfl rfl rfl rfl ?_
    refine tl_iconst rfl ?_
    refine tl_v3i (c9 := 6) (k_read l hS ⟨by omega, by omega⟩ h R hR (slL R k) (hR.sl cf.1.1 cf.1.2 cf.2) sb.1 sb.2.2.2 sb.2.2.2 false) rfl rfl rfl rfl rfl (Nat.le_of_ble_eq_true rfl) (fun z1 h1 p1 => ?_)
    obtain ⟨e1, g1, f1⟩ := p1
    have rb : 0 ≤ rdF (slL R k) false R ∧ rdF (slL R k) false R ≤ 7 := rdF_b _ _ _
    subst e1
    refine tl_if_ne (tgt := 39) rfl rfl ⟨by omega, by omega⟩ (fun c2 => ?_) (fun c2 => ?_)
    · skip
      refine tl_iconst rfl ?_
      show jT _ _ 40 _ _ _ _
      refine tl_iret rfl ?_
      -- leaf 1 at 40
      refine ⟨_, rfl, ?_⟩
      have e : snd9 R k = false := decide_eq_false (fun w => by have := w.2; omega)
      rw [e]
      exact ⟨by decide, rfl, fun w => absurd w (by decide), f1⟩
    · show jT _ _ 35 _ _ _ _
      refine tl_iconst rfl ?_
      refine tl_goto (tgt := 40) rfl rfl ?_
      refine tl_iret rfl ?_
      -- leaf 2 at 40
      refine ⟨_, rfl, ?_⟩
      have z : rdF (slL R k) false R = 0 := by omega
      have e : snd9 R k = true := decide_eq_true ⟨cf, z⟩
      rw [e]
      exact ⟨by decide, rfl, fun _ => (g1 z).1, f1⟩
set_option maxRecDepth 20000 in
set_option maxHeartbeats 1000000 in
theorem r_readTold (l : Launch) (h : jH) (V : List Int) (hV : LB V) (v3 : V.length ≤ 300) (kT : ∀ i, i < V.length → h 407 i = V.getD i 0) (fo : Bool) (R : Nat → Int) (e390 : h 390 = R) (ok : Rok R) : cI l 289 [.ref 388, .int (jI (V.length : Int)), .int (jI (zb fo))] h (fun z h' => (z = rdF V fo R ∧ (rdF V fo R = 0 → RDRP h' V ∧ (zb fo = 1 → ∀ q, q < (rNs V).toNat → h' 413 q = coV (rG V) R q)) ∧ FT9 h h')) := by
  have fb9 := zb_b fo
  refine cI.of rfl rfl ?_
  refine tl_aload_n rfl rfl ?_
  refine tl_iconst rfl ?_
  refine tl_puti (c := 12) (k9 := 33) rfl rfl rfl rfl ?_
  refine tl_aload_n rfl rfl ?_
  refine tl_iload_n rfl rfl ?_
  refine tl_iconst rfl ?_
  show jT _ _ 8 _ _ _ _
  refine tl_icmp_ge (tgt := 15) rfl rfl ⟨by omega, by omega⟩ ⟨by omega, by omega⟩ (fun c1 => ?_) (fun c1 => ?_)
  · skip
    refine tl_iconst rfl ?_
    refine tl_iconst rfl ?_
    refine tl_v2v (c9 := 12) (r_fails2 l (hs h 388 33 0) 0 hs_s (by omega) _ 1 (by omega) (by omega) (by omega)) rfl rfl rfl rfl rfl (Nat.le_of_ble_eq_true rfl) (fun h1 p1 => ?_)
    subst p1
    show jT _ _ 20 _ _ _ _
    -- leaf 0 at 20
    rw [show (if (0 : Int) = 0 ∧ (0 : Int) = 1 then (1 : Int) else 0) = 0 from rfl]
    have kT2 : ∀ i, i < V.length → hs (hs h 388 33 0) 388 33 0 407 i = V.getD i 0 := fun i hi => by rw [hs_O (by decide), hs_O (by decide)]; exact kT i hi
    have y1 := hV.gd (i := V.length - 2) (by omega)
    have y2 := hV.gd (i := V.length - 1) (by omega)
    have y11 := y1.1
    have y12 := y1.2
    have y21 := y2.1
    have y22 := y2.2
    refine tl_aload_n rfl rfl ?_
    refine tl_aload_n rfl rfl ?_
    refine tl_geti (c := 12) (k9 := 33) rfl rfl rfl ?_
    rw [hs_s]
    refine tl_if_ne (tgt := 63) rfl rfl ⟨by omega, by omega⟩ (fun c1 => ?_) (fun c1 => ?_)
    · skip
      exfalso; omega
    · show jT _ _ 28 _ _ _ _
      refine tl_aload_n rfl rfl ?_
      refine tl_iload_n rfl rfl ?_
      show jT _ _ 30 _ _ _ _
      refine tl_iconst rfl ?_
      refine tl_isub rfl ?_
      rw [show (V.length : Int) - 2 = ((V.length - 2 : Nat) : Int) by omega]
      refine tl_v1i (c9 := 12) (r_toldCheck l _ (TB V) (V.length - 2) (by omega) (fun i hi => kT2 i (by omega)) (fun i hi => hV.gd (by omega))) rfl rfl rfl rfl rfl (Nat.le_of_ble_eq_true rfl) (fun zc hc pc => ?_)
      obtain ⟨qc, ec⟩ := pc
      have qc := qc.symm
      subst qc
      subst ec
      have cb := ckF_b (TB V) (V.length - 2)
      refine tl_sipush rfl rfl ?_
      refine tl_aload_n rfl rfl ?_
      refine tl_getr (c := 12) (k9 := 30) (b := 407) rfl rfl rfl rfl ?_
      refine tl_iload_n rfl rfl ?_
      show jT _ _ 43 _ _ _ _
      refine tl_iconst rfl ?_
      refine tl_isub rfl ?_
      refine tl_iald (n := 300) rfl rfl rfl (by omega) (by omega) ?_
      rw [show ((V.length : Int) - 2).toNat = V.length - 2 by omega, kT2 _ (by omega)]
      refine tl_imul rfl ?_
      refine tl_aload_n rfl rfl ?_
      refine tl_getr (c := 12) (k9 := 30) (b := 407) rfl rfl rfl rfl ?_
      refine tl_iload_n rfl rfl ?_
      show jT _ _ 52 _ _ _ _
      refine tl_iconst rfl ?_
      refine tl_isub rfl ?_
      refine tl_iald (n := 300) rfl rfl rfl (by omega) (by omega) ?_
      rw [show ((V.length : Int) - 1).toNat = V.length - 1 by omega, kT2 _ (by omega)]
      refine tl_iadd rfl ?_
      refine tl_icmp_eq (tgt := 63) rfl rfl ⟨by omega, by omega⟩ ⟨by omega, by omega⟩ (fun c2 => ?_) (fun c2 => ?_)
      · skip
        refine tl_iconst rfl ?_
        refine tl_iconst rfl ?_
        show jT _ _ 65 _ _ _ _
        refine tl_v2v (c9 := 12) (r_fails2 l _ 0 hs_s (by omega) _ 2 (by omega) (by omega) (by omega)) rfl rfl rfl rfl rfl (Nat.le_of_ble_eq_true rfl) (fun h2 p2 => ?_)
        subst p2
        show jT _ _ 68 _ _ _ _
        -- leaf 0 at 68
        rw [show (if (0 : Int) = 0 ∧ (0 : Int) = 1 then (2 : Int) else 0) = 0 from rfl]
        have ek : ckf V = 0 := by unfold ckf; rw [if_neg (by omega), if_pos (by omega)]
        have er : rdF V fo R = rdU V fo R := by rw [rdU_e, ek, if_neg (by decide)]
        refine tl_aload_n rfl rfl ?_
        refine tl_geti (c := 12) (k9 := 33) rfl rfl rfl ?_
        rw [hs_s]
        refine tl_if_eq (tgt := 80) rfl rfl ⟨by omega, by omega⟩ (fun c1 => ?_) (fun c1 => ?_)
        · skip
          refine tl_aload_n rfl rfl ?_
          refine tl_iload_n rfl rfl ?_
          refine tl_iconst rfl ?_
          show jT _ _ 83 _ _ _ _
          refine tl_isub rfl ?_
          refine tl_puti (c := 12) (k9 := 31) rfl rfl rfl rfl ?_
          refine tl_aload_n rfl rfl ?_
          refine tl_iconst rfl ?_
          refine tl_puti (c := 12) (k9 := 32) rfl rfl rfl rfl ?_
          show jT _ _ 92 _ _ _ _
          -- leaf 0 at 92
          rw [show (V.length : Int) - 2 = (rN V : Int) by unfold rN; omega]
          refine jT.loc (L' := [some (.ref 388), some (.int (jI ((V.length : Int)))), some (.int (jI (zb fo))), none]) rfl (r_t92 l _ V hV v3 fo R (by rw [hs_O (by decide), hs_O (by decide), hs_O (by decide), hs_O (by decide), hs_O (by decide)]; exact e390) ok ⟨hs_s, by rw [hs_k (by decide), hs_s], by rw [hs_k (by decide), hs_k (by decide), hs_s], fun i hi => by rw [hs_O (by decide), hs_O (by decide), hs_O (by decide), hs_O (by decide), hs_O (by decide)]; exact kT i (by unfold rN at hi; omega), TB_b hV (by unfold rN; omega), by unfold rN; omega, Nat.zero_le _, by decide, by decide⟩ _ _ (fun z m2 hz => ⟨z, rfl, hz.1.trans er.symm, fun w => hz.2.1 (er ▸ w), ((((FT9.put (by decide)).trans (FT9.put (by decide))).trans (FT9.put (by decide))).trans ((FT9.put (by decide)).trans (FT9.put (by decide)))).trans hz.2.2⟩))
        · show jT _ _ 75 _ _ _ _
          exfalso; omega
      · show jT _ _ 59 _ _ _ _
        refine tl_iconst rfl ?_
        refine tl_goto (tgt := 64) rfl rfl ?_
        refine tl_iconst rfl ?_
        refine tl_v2v (c9 := 12) (r_fails2 l _ 0 hs_s (by omega) _ 2 (by omega) (by omega) (by omega)) rfl rfl rfl rfl rfl (Nat.le_of_ble_eq_true rfl) (fun h2 p2 => ?_)
        subst p2
        show jT _ _ 68 _ _ _ _
        -- leaf 1 at 68
        rw [show (if (0 : Int) = 0 ∧ (1 : Int) = 1 then (2 : Int) else 0) = 2 from rfl]
        have ek : ckf V = 2 := by unfold ckf; rw [if_neg (by omega), if_neg (by omega)]
        have er : rdF V fo R = 2 := by rw [rdU_e, ek, if_pos (by decide)]
        refine tl_aload_n rfl rfl ?_
        refine tl_geti (c := 12) (k9 := 33) rfl rfl rfl ?_
        rw [hs_s]
        refine tl_if_eq (tgt := 80) rfl rfl ⟨by omega, by omega⟩ (fun c1 => ?_) (fun c1 => ?_)
        · skip
          exfalso; omega
        · show jT _ _ 75 _ _ _ _
          refine tl_aload_n rfl rfl ?_
          refine tl_geti (c := 12) (k9 := 33) rfl rfl rfl ?_
          rw [hs_s]
          refine tl_iret rfl ?_
          -- leaf 0 at 79
          refine ⟨_, rfl, ?_⟩
          exact ⟨er.symm, fun w => by rw [er] at w; exact absurd w (by decide), ((FT9.put (by decide)).trans (FT9.put (by decide))).trans (FT9.put (by decide))⟩
  · show jT _ _ 11 _ _ _ _
    refine tl_iconst rfl ?_
    refine tl_goto (tgt := 16) rfl rfl ?_
    refine tl_iconst rfl ?_
    show jT _ _ 17 _ _ _ _
    refine tl_v2v (c9 := 12) (r_fails2 l (hs h 388 33 0) 0 hs_s (by omega) _ 1 (by omega) (by omega) (by omega)) rfl rfl rfl rfl rfl (Nat.le_of_ble_eq_true rfl) (fun h1 p1 => ?_)
    subst p1
    show jT _ _ 20 _ _ _ _
    -- leaf 1 at 20
    rw [show (if (0 : Int) = 0 ∧ (1 : Int) = 1 then (1 : Int) else 0) = 1 from rfl]
    have ek : ckf V = 1 := by unfold ckf; rw [if_pos (by omega)]
    have er : rdF V fo R = 1 := by rw [rdU_e, ek, if_pos (by decide)]
    refine tl_aload_n rfl rfl ?_
    refine tl_aload_n rfl rfl ?_
    refine tl_geti (c := 12) (k9 := 33) rfl rfl rfl ?_
    rw [hs_s]
    refine tl_if_ne (tgt := 63) rfl rfl ⟨by omega, by omega⟩ (fun c1 => ?_) (fun c1 => ?_)
    · skip
      refine tl_iconst rfl ?_
      refine tl_iconst rfl ?_
      show jT _ _ 65 _ _ _ _
      refine tl_v2v (c9 := 12) (r_fails2 l _ 1 hs_s (by omega) _ 2 (by omega) (by omega) (by omega)) rfl rfl rfl rfl rfl (Nat.le_of_ble_eq_true rfl) (fun h2 p2 => ?_)
      subst p2
      refine tl_aload_n rfl rfl ?_
      refine tl_geti (c := 12) (k9 := 33) rfl rfl rfl ?_
      rw [hs_s]
      refine tl_if_eq (tgt := 80) rfl rfl ⟨by omega, by omega⟩ (fun c2 => ?_) (fun c2 => ?_)
      · skip
        exfalso; omega
      · show jT _ _ 75 _ _ _ _
        refine tl_aload_n rfl rfl ?_
        refine tl_geti (c := 12) (k9 := 33) rfl rfl rfl ?_
        rw [hs_s]
        refine tl_iret rfl ?_
        -- leaf 0 at 79
        refine ⟨_, rfl, ?_⟩
        rw [show (if (1 : Int) = 0 ∧ (0 : Int) = 1 then (2 : Int) else 1) = 1 from rfl]
        exact ⟨er.symm, fun w => by rw [er] at w; exact absurd w (by decide), ((FT9.put (by decide)).trans (FT9.put (by decide))).trans (FT9.put (by decide))⟩
    · show jT _ _ 28 _ _ _ _
      exfalso; omega
def FS9 (h h' : jH) : Prop := (∀ x, x ≠ 388 → (x < 403 ∨ x = 405 ∨ 413 < x) → h' x = h x) ∧ ∀ q, q ≠ 25 → q ≠ 29 → (q < 31 ∨ 38 < q) → h' 388 q = h 388 q
theorem FS9.trans {a b c : jH} (h1 : FS9 a b) (h2 : FS9 b c) : FS9 a c := ⟨fun x a1 a2 => (h2.1 x a1 a2).trans (h1.1 x a1 a2), fun q a1 a2 a3 => (h2.2 q a1 a2 a3).trans (h1.2 q a1 a2 a3)⟩
theorem FT9.s9 {a b : jH} (h1 : FT9 a b) : FS9 a b := ⟨fun x a1 a2 => h1.1 x a1 (by omega), h1.2⟩
set_option maxRecDepth 20000 in
set_option maxHeartbeats 1000000 in
theorem r_rsl_lp (l : Launch) (h : jH) (R : Nat → Int) (e390 : h 390 = R) (so : sOk R) (k : Int) (k0 : 0 ≤ k) (k2 : k ≤ 2) (n1 : R (200 + 301 * k).toNat ≠ -1) (fo : Bool) (P : Option Value → jH → Prop) (hx : ∀ mem, (∀ i, i < (slL R k).length → mem 407 i = (slL R k).getD i 0) → (∀ x, x ≠ 407 → mem x = h x) → jT l 290 43 [some (.ref 388), some (.int (jI (k))), some (.int (jI (zb fo))), some (.int (jI (200 + 301 * k))), some (.int (jI (R (200 + 301 * k).toNat)))] [] mem P) : ∀ (m : Nat) (i : Nat) (mem : jH), (slL R k).length - i < m → (i ≤ (slL R k).length ∧ (∀ q, q < i → mem 407 q = (slL R k).getD q 0) ∧ ∀ x, x ≠ 407 → mem x = h x) → jT l 290 8 [some (.ref 388), some (.int (jI (k))), some (.int (jI (zb fo))), some (.int (jI (200 + 301 * k))), some (.int (jI ((i : Int))))] [] mem P := by
  have sb := so.b k0 k2 n1
  have s2 := sb.2.1
  have s3 := sb.2.2.2
  intro m
  induction m with
  | zero => intro i mem hk; omega
  | succ m ih =>
    intro i mem hk hi
    obtain ⟨i0, i1, fr⟩ := hi
    refine tl_iload rfl rfl ?_
    refine tl_aload_n rfl rfl ?_
    refine tl_getr (c := 12) (k9 := 3) (b := 390) rfl rfl rfl rfl ?_
    refine tl_iload_n rfl rfl ?_
    refine tl_iald (n := 1362) rfl rfl rfl (by omega) (by omega) ?_
    rw [fr 390 (by decide), e390]
    refine tl_icmp_ge (tgt := 43) rfl rfl ⟨by omega, by omega⟩ ⟨by omega, by omega⟩ (fun c1 => ?_) (fun c1 => ?_)
    · skip
      show jT _ _ 43 _ _ _ _
      -- leaf 0 at 43
      have e : i = (slL R k).length := by omega
      refine jT.loc ?_ (hx mem (fun q hq => i1 q (by omega)) fr)
      rw [show R (200 + 301 * k).toNat = (i : Int) by omega]
    · show jT _ _ 19 _ _ _ _
      show jT _ _ 19 _ _ _ _
      refine tl_aload_n rfl rfl ?_
      refine tl_getr (c := 12) (k9 := 30) (b := 407) rfl rfl rfl rfl ?_
      refine tl_iload rfl rfl ?_
      refine tl_aload_n rfl rfl ?_
      refine tl_getr (c := 12) (k9 := 3) (b := 390) rfl rfl rfl rfl ?_
      refine tl_iload_n rfl rfl ?_
      refine tl_iconst rfl ?_
      show jT _ _ 31 _ _ _ _
      refine tl_iadd rfl ?_
      refine tl_iload rfl rfl ?_
      refine tl_iadd rfl ?_
      refine tl_iald (n := 1362) rfl rfl rfl (by omega) (by omega) ?_
      rw [fr 390 (by decide), e390, show ((200 : Int) + 301 * k + 1 + (i : Int)).toNat = (201 + 301 * k).toNat + i by omega]
      refine tl_iast (n := 300) rfl rfl rfl (by omega) (by omega) ?_
      rw [Int.toNat_natCast]
      refine tl_iinc rfl rfl rfl ?_
      refine tl_goto (tgt := 8) rfl rfl ?_
      show jT _ _ 8 _ _ _ _
      -- leaf 1 at 8
      refine jT.loc ?_ (ih (i + 1) _ (by omega) ⟨by omega, fun q hq => ?_, fun x hx9 => by rw [hs_O hx9]; exact fr x hx9⟩)
      · rw [show ((i + 1 : Nat) : Int) = (i : Int) + 1 by omega]; rfl
      · by_cases c : q = i
        · subst c; rw [hs_s, slL, lsF_gd _ q (by have : (slL R k).length = (R (200 + 301 * k).toNat).toNat := lsF_len _; omega)]
        · rw [hs_k c]; exact i1 q (by omega)
set_option maxRecDepth 20000 in
set_option maxHeartbeats 1000000 in
theorem r_readSlot (l : Launch) (h : jH) (R : Nat → Int) (e390 : h 390 = R) (ok : Rok R) (so : sOk R) (k : Int) (k0 : 0 ≤ k) (k2 : k ≤ 2) (n1 : R (200 + 301 * k).toNat ≠ -1) (fo : Bool) : cI l 290 [.ref 388, .int (jI k), .int (jI (zb fo))] h (fun z h' => (z = rdF (slL R k) fo R ∧ (rdF (slL R k) fo R = 0 → RDRP h' (slL R k) ∧ (zb fo = 1 → ∀ q, q < (rNs (slL R k)).toNat → h' 413 q = coV (rG (slL R k)) R q)) ∧ FS9 h h')) := by
  have sb := so.b k0 k2 n1
  have s2 := sb.2.1
  refine cI.of rfl rfl ?_
  refine tl_iload_n rfl rfl ?_
  refine tl_s1i (c_slotAt l _ k) rfl rfl rfl (Nat.le_of_ble_eq_true rfl) (fun zs hs9 ps => ?_)
  obtain ⟨qs, es⟩ := ps
  have qs := qs.symm
  subst qs
  subst es
  refine tl_istore_n rfl (Nat.le_of_ble_eq_true rfl) rfl ?_
  refine tl_iconst rfl ?_
  refine tl_istore rfl (Nat.le_of_ble_eq_true rfl) rfl ?_
  show jT _ _ 8 _ _ _ _
  -- leaf 0 at 8
  refine r_rsl_lp l h R e390 so k k0 k2 n1 fo _ (fun mem g1 fr => ?_) _ 0 h (Nat.lt_succ_self _) ⟨Nat.zero_le _, fun q hq => absurd hq (by omega), fun _ _ => rfl⟩
  refine tl_aload_n rfl rfl ?_
  refine tl_aload_n rfl rfl ?_
  refine tl_getr (c := 12) (k9 := 3) (b := 390) rfl rfl rfl rfl ?_
  refine tl_iload_n rfl rfl ?_
  refine tl_iald (n := 1362) rfl rfl rfl (by omega) (by omega) ?_
  rw [fr 390 (by decide), e390, ← s2]
  refine tl_iload_n rfl rfl ?_
  show jT _ _ 51 _ _ _ _
  refine tl_v2i (c9 := 12) (r_readTold l mem (slL R k) sb.1 sb.2.2.2 g1 fo R (by rw [fr 390 (by decide)]; exact e390) ok) rfl rfl rfl rfl rfl (Nat.le_of_ble_eq_true rfl) (fun z2 h2 p2 => ?_)
  refine tl_iret rfl ?_
  -- leaf 0 at 54
  refine ⟨_, rfl, p2.1, p2.2.1, FS9.trans ⟨fun x a1 a2 => fr x (by omega), fun q _ _ _ => by rw [fr 388 (by decide)]⟩ p2.2.2.s9⟩
set_option maxRecDepth 20000 in
set_option maxHeartbeats 1000000 in
theorem r_isRead (l : Launch) (h : jH) (R : Nat → Int) (e390 : h 390 = R) (ok : Rok R) (so : sOk R) (k : Int) (hk : jr k) : cI l 291 [.ref 388, .int (jI k)] h (fun z h' => z = zb (snd9 R k) ∧ (snd9 R k = true → RDRP h' (slL R k)) ∧ FS9 h h') := by
  have k1 := hk.1
  have k2 := hk.2
  refine cI.ofZ rfl rfl ?_
  refine tl_iload_n rfl rfl ?_
  refine tl_s1i (c_isSlotR l _ k ⟨by omega, by omega⟩) rfl rfl rfl (Nat.le_of_ble_eq_true rfl) (fun z1 h1 p1 => ?_)
  obtain ⟨q1, p1⟩ := p1
  have q1 := q1.symm
  subst q1
  have b1 : z1 = 0 ∨ z1 = 1 := by rw [p1]; split <;> omega
  refine tl_if_eq (tgt := 28) rfl rfl ⟨by omega, by omega⟩ (fun c1 => ?_) (fun c1 => ?_)
  · skip
    refine tl_iconst rfl ?_
    refine tl_iret rfl ?_
    -- leaf 0 at 29
    refine ⟨_, rfl, ?_⟩
    have e : snd9 R k = false := decide_eq_false (fun w => by rw [if_pos w.1.1] at p1; omega)
    rw [e]
    exact ⟨by decide, rfl, fun w => absurd w (by decide), fun _ _ _ => rfl, fun _ _ _ _ => rfl⟩
  · show jT _ _ 7 _ _ _ _
    have ck : 0 ≤ k ∧ k ≤ 2 := by
      by_cases c : 0 ≤ k ∧ k ≤ 2
      · exact c
      · rw [if_neg c] at p1; omega
    have ck1 := ck.1
    have ck2 := ck.2
    refine tl_aload_n rfl rfl ?_
    show jT _ _ 8 _ _ _ _
    refine tl_iload_n rfl rfl ?_
    refine tl_v1i (c9 := 12) (c_has l _ k (by omega) (by omega) (by rw [e390]; have a := (so k (by omega) (by omega)).1; exact ⟨by omega, by omega⟩)) rfl rfl rfl rfl rfl (Nat.le_of_ble_eq_true rfl) (fun zh hh9 ph => ?_)
    obtain ⟨qh, ph⟩ := ph
    have qh := qh.symm
    subst qh
    rw [e390] at ph
    have bh : zh = 0 ∨ zh = 1 := by rw [ph]; split <;> omega
    refine tl_if_eq (tgt := 28) rfl rfl ⟨by omega, by omega⟩ (fun c2 => ?_) (fun c2 => ?_)
    · skip
      refine tl_iconst rfl ?_
      refine tl_iret rfl ?_
      -- leaf 1 at 29
      refine ⟨_, rfl, ?_⟩
      have e : snd9 R k = false := decide_eq_false (fun w => by rw [if_neg w.1.2] at ph; omega)
      rw [e]
      exact ⟨by decide, rfl, fun w => absurd w (by decide), fun _ _ _ => rfl, fun _ _ _ _ => rfl⟩
    · show jT _ _ 15 _ _ _ _
      have cf : R (200 + 301 * k).toNat ≠ -1 := fun w => by rw [if_pos w] at ph; omega
      refine tl_aload_n rfl rfl ?_
      refine tl_iload_n rfl rfl ?_
      show jT _ _ 17 _ _ _ _
      refine tl_iconst rfl ?_
      refine tl_v2i (c9 := 12) (r_readSlot l h R e390 ok so k ck1 ck2 cf false) rfl rfl rfl rfl rfl (Nat.le_of_ble_eq_true rfl) (fun z2 h2 p2 => ?_)
      obtain ⟨e2, g2, f2⟩ := p2
      have rb := rdF_b (slL R k) false R
      subst e2
      refine tl_if_ne (tgt := 28) rfl rfl ⟨by omega, by omega⟩ (fun c3 => ?_) (fun c3 => ?_)
      · skip
        refine tl_iconst rfl ?_
        refine tl_iret rfl ?_
        -- leaf 2 at 29
        refine ⟨_, rfl, ?_⟩
        have e : snd9 R k = false := decide_eq_false (fun w => by have := w.2; omega)
        rw [e]
        exact ⟨by decide, rfl, fun w => absurd w (by decide), f2⟩
      · show jT _ _ 24 _ _ _ _
        refine tl_iconst rfl ?_
        refine tl_goto (tgt := 29) rfl rfl ?_
        show jT _ _ 29 _ _ _ _
        refine tl_iret rfl ?_
        -- leaf 3 at 29
        refine ⟨_, rfl, ?_⟩
        have z : rdF (slL R k) false R = 0 := by omega
        have e : snd9 R k = true := decide_eq_true ⟨⟨ck, cf⟩, z⟩
        rw [e]
        exact ⟨by decide, rfl, fun _ => (g2 z).1, f2⟩
