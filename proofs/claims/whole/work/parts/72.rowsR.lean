/-! a patch read: its rows, of the reference -/
def FY9 (h h' : jH) : Prop := (∀ x, x ≠ 388 → x ≠ 406 → h' x = h x) ∧ ∀ q, q ≠ 29 → q ≠ 32 → q ≠ 33 → h' 388 q = h 388 q
theorem FY9.rfl' {h : jH} : FY9 h h := ⟨fun _ _ _ => rfl, fun _ _ _ _ => rfl⟩
theorem FY9.trans {a b c : jH} (h1 : FY9 a b) (h2 : FY9 b c) : FY9 a c := ⟨fun x a1 a2 => (h2.1 x a1 a2).trans (h1.1 x a1 a2), fun q a1 a2 a3 => (h2.2 q a1 a2 a3).trans (h1.2 q a1 a2 a3)⟩
theorem FRd.y9 {a b : jH} (h1 : FRd a b) : FY9 a b := ⟨fun x a1 _ => h1.1 x a1, fun q _ a2 a3 => h1.2 q a2 a3⟩
theorem FB.y9 {a b : jH} (h1 : FB a b) : FY9 a b := ⟨fun x a1 a2 => h1.1 x a1 a2, fun q a1 _ _ => h1.2 q a1⟩
theorem BL.fr {h h' : jH} {V : List Int} (k : BL h V) (f : FRd h h') : BL h' V := ⟨by rw [f.2 29 (by decide) (by decide)]; exact k.1, fun i hi => by rw [f.1 406 (by decide)]; exact k.2 i hi⟩
theorem RDR.fb {h h' : jH} {B : Nat → Int} {N p : Nat} {f : Int} (k : RDR h B N p f) (g : FB h h') : RDR h' B N p f := k.at9 (fun q hq => g.2 q (by omega)) (g.1 407 (by decide) (by decide))
theorem BL.add1 {h : jH} {V : List Int} {x : Int} (k : BL h V) : BL (hs (hs h 406 V.length x) 388 29 ((V.length : Int) + 1)) (V ++ [x]) ∧ FB h (hs (hs h 406 V.length x) 388 29 ((V.length : Int) + 1)) := by
  refine ⟨⟨?_, fun i hi => ?_⟩, fun y y1 y2 => by rw [hs_O y1, hs_O y2], fun q hq => by rw [hs_k hq, hs_o (by decide)]⟩
  · rw [hs_s, List.length_append]; show _ = ((V.length + 1 : Nat) : Int); omega
  · rw [hs_o (by decide)]
    rw [List.length_append] at hi
    by_cases c : i = V.length
    · subst c; rw [hs_s, gd_r (Nat.le_refl _), Nat.sub_self]; rfl
    · have hi2 : i < V.length := by have : i < V.length + 1 := hi; omega
      rw [hs_k c, gd_l hi2]; exact k.2 i hi2
set_option maxRecDepth 20000 in
set_option maxHeartbeats 1000000 in
theorem r_rpt_lp (l : Launch) (h : jH) (V : List Int) (n : Nat) (v : Int) (hn : V.length + n ≤ 64) (P : Option Value → jH → Prop) (hP : ∀ mem, (BL mem (V ++ List.replicate n v) ∧ FB h mem) → P none mem) : ∀ (m : Nat) (k : Nat) (mem : jH), n - k < m → (k ≤ n ∧ BL mem (V ++ List.replicate k v) ∧ FB h mem) → jT l 281 2 [some (.ref 388), some (.int (jI ((n : Int)))), some (.int (jI (v))), some (.int (jI ((k : Int))))] [] mem P := by
  intro m
  induction m with
  | zero => intro k mem hk; omega
  | succ m ih =>
    intro k mem hk hi
    obtain ⟨i0, i1, i2⟩ := hi
    have le : (V ++ List.replicate k v).length = V.length + k := by rw [List.length_append, List.length_replicate]
    have g1 := i1.1
    rw [le] at g1
    refine tl_iload_n rfl rfl ?_
    refine tl_iload_n rfl rfl ?_
    refine tl_icmp_ge (tgt := 33) rfl rfl ⟨by omega, by omega⟩ ⟨by omega, by omega⟩ (fun c1 => ?_) (fun c1 => ?_)
    · skip
      refine tl_ret rfl ?_
      -- leaf 0 at 33
      have e : k = n := by omega
      subst e
      exact hP _ ⟨i1, i2⟩
    · show jT _ _ 7 _ _ _ _
      refine tl_aload_n rfl rfl ?_
      refine tl_getr (c := 12) (k9 := 28) (b := 406) rfl rfl rfl rfl ?_
      show jT _ _ 11 _ _ _ _
      refine tl_aload_n rfl rfl ?_
      refine tl_geti (c := 12) (k9 := 29) rfl rfl rfl ?_
      rw [g1]
      refine tl_iload_n rfl rfl ?_
      refine tl_iast (n := 64) rfl rfl rfl (by omega) (by omega) ?_
      rw [Int.toNat_natCast, ← le]
      refine tl_aload_n rfl rfl ?_
      refine tl_dup rfl rfl ?_
      refine tl_geti (c := 12) (k9 := 29) rfl rfl rfl ?_
      rw [hs_o (by decide), g1]
      show jT _ _ 22 _ _ _ _
      refine tl_iconst rfl ?_
      refine tl_iadd rfl ?_
      refine tl_puti (c := 12) (k9 := 29) rfl rfl rfl rfl ?_
      refine tl_iinc rfl rfl rfl ?_
      refine tl_goto (tgt := 2) rfl rfl ?_
      show jT _ _ 2 _ _ _ _
      -- leaf 1 at 2
      have a := i1.add1 (x := v)
      refine jT.loc ?_ (ih (k + 1) _ (by omega) ⟨by omega, ?_, ?_⟩)
      · rw [show ((k + 1 : Nat) : Int) = (k : Int) + 1 by omega]; rfl
      · rw [rep_s, ← List.append_assoc]; rw [le] at a ⊢; exact a.1
      · have b := a.2
        rw [le] at b ⊢
        exact ⟨fun y y1 y2 => (b.1 y y1 y2).trans (i2.1 y y1 y2), fun q hq => (b.2 q hq).trans (i2.2 q hq)⟩
set_option maxRecDepth 20000 in
set_option maxHeartbeats 1000000 in
theorem r_repeat (l : Launch) (h : jH) (V : List Int) (n v : Int) (n0 : 0 ≤ n) (hn : V.length + n.toNat ≤ 64) (k : BL h V) : cV l 281 [.ref 388, .int (jI n), .int (jI v)] h (fun h' => BL h' (V ++ List.replicate n.toNat v) ∧ FB h h') := by
  obtain ⟨n, rfl⟩ : ∃ q : Nat, n = (q : Int) := ⟨n.toNat, by omega⟩
  rw [Int.toNat_natCast] at hn ⊢
  refine cV.of rfl rfl ?_
  refine tl_iconst rfl ?_
  refine tl_istore_n rfl (Nat.le_of_ble_eq_true rfl) rfl ?_
  show jT _ _ 2 _ _ _ _
  -- leaf 0 at 2
  exact r_rpt_lp l h V n v hn _ (fun mem hz => ⟨rfl, hz⟩) _ 0 h (Nat.lt_succ_self _) ⟨Nat.zero_le _, by rw [List.replicate_zero, List.append_nil]; exact k, fun _ _ _ => rfl, fun _ _ => rfl⟩
set_option maxRecDepth 20000 in
set_option maxHeartbeats 1000000 in
theorem r_rbe (l : Launch) (mem : jH) (n i : Int) (nb : 0 ≤ n ∧ n ≤ 64) (ib : 0 ≤ i ∧ i ≤ 100) (f : Int) (hf : mem 388 33 = f) (f0 : f ≠ 0) (f7 : 0 ≤ f ∧ f ≤ 7) (P : Option Value → jH → Prop) (hP : P none mem) : jT l 280 2 [some (.ref 388), some (.int (jI (n))), some (.int (jI (i)))] [] mem P := by
  refine tl_iload_n rfl rfl ?_
  refine tl_iload_n rfl rfl ?_
  refine tl_icmp_ge (tgt := 43) rfl rfl ⟨by omega, by omega⟩ ⟨by omega, by omega⟩ (fun c1 => ?_) (fun c1 => ?_)
  · skip
    refine tl_ret rfl ?_
    -- leaf 0 at 43
    exact hP
  · show jT _ _ 7 _ _ _ _
    refine tl_aload_n rfl rfl ?_
    refine tl_geti (c := 12) (k9 := 33) rfl rfl rfl ?_
    rw [hf]
    show jT _ _ 11 _ _ _ _
    refine tl_if_ne (tgt := 43) rfl rfl ⟨by omega, by omega⟩ (fun c2 => ?_) (fun c2 => ?_)
    · skip
      refine tl_ret rfl ?_
      -- leaf 1 at 43
      exact hP
    · show jT _ _ 14 _ _ _ _
      show jT _ _ 14 _ _ _ _
      -- leaf 2 at 14
      exfalso; omega
set_option maxRecDepth 20000 in
set_option maxHeartbeats 1000000 in
theorem r_rby_lp (l : Launch) (h : jH) (B : Nat → Int) (N n : Nat) (hB : BB B N) (n64 : n ≤ 64) (E : Int × Nat × List Int) (P : Option Value → jH → Prop) (hP : ∀ mem, ((∃ p2, RDR mem B N p2 E.1 ∧ (E.1 = 0 → p2 = E.2.1)) ∧ (E.1 = 0 → BL mem E.2.2) ∧ (0 ≤ mem 388 29 ∧ mem 388 29 ≤ 64) ∧ FY9 h mem) → P none mem) : ∀ (m : Nat) (i : Nat) (p : Nat) (V : List Int) (mem : jH), n - i < m → (i ≤ n ∧ plF B N (n - i) p V = E ∧ RDR mem B N p 0 ∧ BL mem V ∧ V.length + (n - i) ≤ 64 ∧ FY9 h mem) → jT l 280 2 [some (.ref 388), some (.int (jI ((n : Int)))), some (.int (jI ((i : Int))))] [] mem P := by
  intro m
  induction m with
  | zero => intro i p V mem hk; omega
  | succ m ih =>
    intro i p V mem hk hi
    obtain ⟨i0, hE, i2, i3, i4, fr⟩ := hi
    have i2p := i2.2.2.2.2.2.2.1
    refine tl_iload_n rfl rfl ?_
    refine tl_iload_n rfl rfl ?_
    refine tl_icmp_ge (tgt := 43) rfl rfl ⟨by omega, by omega⟩ ⟨by omega, by omega⟩ (fun c1 => ?_) (fun c1 => ?_)
    · skip
      refine tl_ret rfl ?_
      -- leaf 0 at 43
      have e : i = n := by omega
      subst e
      rw [Nat.sub_self] at hE
      rw [plF] at hE
      subst hE
      exact hP _ ⟨⟨p, i2, fun _ => rfl⟩, fun _ => i3, ⟨by rw [i3.1]; omega, by rw [i3.1]; omega⟩, fr⟩
    · show jT _ _ 7 _ _ _ _
      refine tl_aload_n rfl rfl ?_
      refine tl_geti (c := 12) (k9 := 33) rfl rfl rfl ?_
      rw [i2.2.2.1]
      show jT _ _ 11 _ _ _ _
      refine tl_if_ne (tgt := 43) rfl rfl ⟨by omega, by omega⟩ (fun c2 => ?_) (fun c2 => ?_)
      · skip
        exfalso; omega
      · show jT _ _ 14 _ _ _ _
        refine tl_aload_n rfl rfl ?_
        refine tl_getr (c := 12) (k9 := 28) (b := 406) rfl rfl rfl rfl ?_
        refine tl_aload_n rfl rfl ?_
        refine tl_geti (c := 12) (k9 := 29) rfl rfl rfl ?_
        rw [i3.1]
        refine tl_aload_n rfl rfl ?_
        refine tl_v0i (c9 := 12) (r_nextByte l mem B N p 0 i2) rfl rfl rfl rfl rfl (Nat.le_of_ble_eq_true rfl) (fun z1 h1 p1 => ?_)
        obtain ⟨e1, k1, f1⟩ := p1
        show jT _ _ 26 _ _ _ _
        -- leaf 1 at 26
        have i3b := i3.fr f1
        have ad := i3b.add1 (x := z1)
        have lb := i3.1
        by_cases c : p < N
        · rw [rbR_t c] at e1 k1
          have e1 : z1 = B p := e1
          subst e1
          refine tl_iast (n := 64) rfl rfl rfl (by omega) (by omega) ?_
          rw [Int.toNat_natCast]
          refine tl_aload_n rfl rfl ?_
          refine tl_dup rfl rfl ?_
          refine tl_geti (c := 12) (k9 := 29) rfl rfl rfl ?_
          rw [hs_o (by decide), i3b.1]
          refine tl_iconst rfl ?_
          refine tl_iadd rfl ?_
          show jT _ _ 34 _ _ _ _
          refine tl_puti (c := 12) (k9 := 29) rfl rfl rfl rfl ?_
          refine tl_iinc rfl rfl rfl ?_
          refine tl_goto (tgt := 2) rfl rfl ?_
          show jT _ _ 2 _ _ _ _
          -- leaf 0 at 2
          rw [show n - i = (n - (i + 1)) + 1 by omega, plF_t c] at hE
          refine jT.loc ?_ (ih (i + 1) (p + 1) (V ++ [B p]) _ (by omega) ⟨by omega, hE, k1.fb ad.2, ad.1, by rw [List.length_append]; show V.length + 1 + _ ≤ 64; omega, (fr.trans f1.y9).trans ad.2.y9⟩)
          rw [show ((i + 1 : Nat) : Int) = (i : Int) + 1 by omega]; rfl
        · rw [rbR_f c] at e1 k1
          refine tl_iast (n := 64) rfl rfl rfl (by omega) (by omega) ?_
          rw [Int.toNat_natCast]
          refine tl_aload_n rfl rfl ?_
          refine tl_dup rfl rfl ?_
          refine tl_geti (c := 12) (k9 := 29) rfl rfl rfl ?_
          rw [hs_o (by decide), i3b.1]
          refine tl_iconst rfl ?_
          refine tl_iadd rfl ?_
          show jT _ _ 34 _ _ _ _
          refine tl_puti (c := 12) (k9 := 29) rfl rfl rfl rfl ?_
          refine tl_iinc rfl rfl rfl ?_
          refine tl_goto (tgt := 2) rfl rfl ?_
          show jT _ _ 2 _ _ _ _
          -- leaf 0 at 2
          rw [show n - i = (n - (i + 1)) + 1 by omega, plF_f c] at hE
          subst hE
          have k2 := k1.fb ad.2
          refine r_rbe l _ _ _ (by omega) (by omega) 3 k2.2.2.1 (by decide) (by omega) _ (hP _ ⟨⟨p, k2, fun w => absurd w (by show ¬ (3 : Int) = 0; decide)⟩, fun w => absurd w (by show ¬ (3 : Int) = 0; decide), ⟨by rw [hs_s]; omega, by rw [hs_s]; omega⟩, (fr.trans f1.y9).trans ad.2.y9⟩)
set_option maxRecDepth 20000 in
set_option maxHeartbeats 1000000 in
theorem r_readBytes (l : Launch) (h : jH) (B : Nat → Int) (N p : Nat) (hB : BB B N) (V : List Int) (n : Int) (n0 : 0 ≤ n) (hn : V.length + n.toNat ≤ 64) (k : BL h V) (kr : RDR h B N p 0) : cV l 280 [.ref 388, .int (jI n)] h (fun h' => ((∃ p2, RDR h' B N p2 (plF B N n.toNat p V).1 ∧ ((plF B N n.toNat p V).1 = 0 → p2 = (plF B N n.toNat p V).2.1)) ∧ ((plF B N n.toNat p V).1 = 0 → BL h' (plF B N n.toNat p V).2.2) ∧ (0 ≤ h' 388 29 ∧ h' 388 29 ≤ 64) ∧ FY9 h h')) := by
  obtain ⟨n, rfl⟩ : ∃ q : Nat, n = (q : Int) := ⟨n.toNat, by omega⟩
  rw [Int.toNat_natCast] at hn ⊢
  refine cV.of rfl rfl ?_
  refine tl_iconst rfl ?_
  refine tl_istore_n rfl (Nat.le_of_ble_eq_true rfl) rfl ?_
  show jT _ _ 2 _ _ _ _
  -- leaf 0 at 2
  exact r_rby_lp l h B N n hB (by omega) _ _ (fun mem hz => ⟨rfl, hz⟩) _ 0 p V h (Nat.lt_succ_self _) ⟨Nat.zero_le _, rfl, kr, k, hn, FY9.rfl'⟩
set_option maxRecDepth 20000 in
set_option maxHeartbeats 1000000 in
theorem r_readBytesZ (l : Launch) (h : jH) (n : Int) (nb : -100000 ≤ n ∧ n ≤ 100000) (f : Int) (hf : h 388 33 = f) (f0 : f ≠ 0) (f7 : 0 ≤ f ∧ f ≤ 7) : cV l 280 [.ref 388, .int (jI n)] h (fun h' => h' = h) := by
  refine cV.of rfl rfl ?_
  refine tl_iconst rfl ?_
  refine tl_istore_n rfl (Nat.le_of_ble_eq_true rfl) rfl ?_
  refine tl_iload_n rfl rfl ?_
  refine tl_iload_n rfl rfl ?_
  refine tl_icmp_ge (tgt := 43) rfl rfl ⟨by omega, by omega⟩ ⟨by omega, by omega⟩ (fun c1 => ?_) (fun c1 => ?_)
  · skip
    refine tl_ret rfl ?_
    -- leaf 0 at 43
    exact ⟨rfl, rfl⟩
  · show jT _ _ 7 _ _ _ _
    show jT _ _ 7 _ _ _ _
    refine tl_aload_n rfl rfl ?_
    refine tl_geti (c := 12) (k9 := 33) rfl rfl rfl ?_
    rw [hf]
    refine tl_if_ne (tgt := 43) rfl rfl ⟨by omega, by omega⟩ (fun c2 => ?_) (fun c2 => ?_)
    · skip
      refine tl_ret rfl ?_
      -- leaf 1 at 43
      exact ⟨rfl, rfl⟩
    · show jT _ _ 14 _ _ _ _
      show jT _ _ 14 _ _ _ _
      -- leaf 2 at 14
      exfalso; omega
set_option maxRecDepth 20000 in
set_option maxHeartbeats 1000000 in
theorem r_rr41 (l : Launch) (mem : jH) (B : Nat → Int) (N p : Nat) (f : Int) (k9 : RDR mem B N p f) (f9 : f ≠ 0) (many wh way nb : Int) (mb : 0 ≤ many ∧ many ≤ 64) (wb : 0 ≤ way ∧ way ≤ 40000) (hnb : mem 388 29 = nb) (nbb : 0 ≤ nb ∧ nb ≤ 64) (y4 y5 : Option Value) (P : Option Value → jH → Prop) (hP : ∀ m2, RDR m2 B N p f → FRd mem m2 → P none m2) : jT l 282 41 [some (.ref 388), some (.int (jI (many))), some (.int (jI (wh))), some (.int (jI (way))), y4, y5] [] mem P := by
  have k8 := k9.2.2.2.2.2.2.2
  have k7 := k9.2.2.1
  refine tl_aload_n rfl rfl ?_
  refine tl_geti (c := 12) (k9 := 29) rfl rfl rfl ?_
  rw [hnb]
  refine tl_iload_n rfl rfl ?_
  refine tl_icmp_ge (tgt := 184) rfl rfl ⟨by omega, by omega⟩ ⟨by omega, by omega⟩ (fun c1 => ?_) (fun c1 => ?_)
  · skip
    refine tl_ret rfl ?_
    -- leaf 0 at 184
    exact hP _ k9 FRd.rfl'
  · show jT _ _ 49 _ _ _ _
    refine tl_aload_n rfl rfl ?_
    show jT _ _ 50 _ _ _ _
    refine tl_geti (c := 12) (k9 := 33) rfl rfl rfl ?_
    rw [k7]
    refine tl_if_ne (tgt := 184) rfl rfl ⟨by omega, by omega⟩ (fun c2 => ?_) (fun c2 => ?_)
    · skip
      refine tl_ret rfl ?_
      -- leaf 1 at 184
      exact hP _ k9 FRd.rfl'
    · show jT _ _ 56 _ _ _ _
      show jT _ _ 56 _ _ _ _
      -- leaf 2 at 56
      exfalso; omega
set_option maxRecDepth 20000 in
set_option maxHeartbeats 1000000 in
theorem r_rr181 (l : Launch) (mem : jH) (B : Nat → Int) (N p : Nat) (f : Int) (k9 : RDR mem B N p f) (f9 : f ≠ 0) (many wh way nb : Int) (mb : 0 ≤ many ∧ many ≤ 64) (wb : 0 ≤ way ∧ way ≤ 40000) (hnb : mem 388 29 = nb) (nbb : 0 ≤ nb ∧ nb ≤ 64) (y4 y5 : Option Value) (P : Option Value → jH → Prop) (hP : ∀ m2, RDR m2 B N p f → FRd mem m2 → P none m2) : jT l 282 181 [some (.ref 388), some (.int (jI (many))), some (.int (jI (wh))), some (.int (jI (way))), y4, y5] [] mem P := by
  have k8 := k9.2.2.2.2.2.2.2
  have k7 := k9.2.2.1
  refine tl_goto (tgt := 41) rfl rfl ?_
  show jT _ _ 41 _ _ _ _
  -- leaf 0 at 41
  exact r_rr41 l mem B N p f k9 f9 many wh way nb mb wb hnb nbb _ _ P hP
set_option maxRecDepth 20000 in
set_option maxHeartbeats 1000000 in
theorem r_rr123 (l : Launch) (mem : jH) (B : Nat → Int) (N p : Nat) (f : Int) (k9 : RDR mem B N p f) (f9 : f ≠ 0) (many wh way nb : Int) (mb : 0 ≤ many ∧ many ≤ 64) (wb : 0 ≤ way ∧ way ≤ 40000) (hnb : mem 388 29 = nb) (nbb : 0 ≤ nb ∧ nb ≤ 64) (y4 y5 : Option Value) (P : Option Value → jH → Prop) (hP : ∀ m2, RDR m2 B N p f → FRd mem m2 → P none m2) : jT l 282 123 [some (.ref 388), some (.int (jI (many))), some (.int (jI (wh))), some (.int (jI (way))), y4, y5] [] mem P := by
  have k8 := k9.2.2.2.2.2.2.2
  have k7 := k9.2.2.1
  refine tl_iload_n rfl rfl ?_
  refine tl_iconst rfl ?_
  refine tl_icmp_ne (tgt := 181) rfl rfl ⟨by omega, by omega⟩ ⟨by omega, by omega⟩ (fun c1 => ?_) (fun c1 => ?_)
  · skip
    show jT _ _ 181 _ _ _ _
    -- leaf 0 at 181
    exact r_rr181 l mem B N p f k9 f9 many wh way nb mb wb hnb nbb _ _ P hP
  · show jT _ _ 128 _ _ _ _
    refine tl_aload_n rfl rfl ?_
    refine tl_geti (c := 12) (k9 := 29) rfl rfl rfl ?_
    rw [hnb]
    refine tl_iload_n rfl rfl ?_
    show jT _ _ 133 _ _ _ _
    refine tl_icmp_ge (tgt := 181) rfl rfl ⟨by omega, by omega⟩ ⟨by omega, by omega⟩ (fun c2 => ?_) (fun c2 => ?_)
    · skip
      show jT _ _ 181 _ _ _ _
      -- leaf 1 at 181
      exact r_rr181 l mem B N p f k9 f9 many wh way nb mb wb hnb nbb _ _ P hP
    · show jT _ _ 136 _ _ _ _
      refine tl_aload_n rfl rfl ?_
      refine tl_geti (c := 12) (k9 := 33) rfl rfl rfl ?_
      rw [k7]
      refine tl_if_ne (tgt := 181) rfl rfl ⟨by omega, by omega⟩ (fun c3 => ?_) (fun c3 => ?_)
      · skip
        show jT _ _ 181 _ _ _ _
        -- leaf 2 at 181
        exact r_rr181 l mem B N p f k9 f9 many wh way nb mb wb hnb nbb _ _ P hP
      · show jT _ _ 143 _ _ _ _
        show jT _ _ 143 _ _ _ _
        -- leaf 3 at 143
        exfalso; omega
set_option maxRecDepth 20000 in
set_option maxHeartbeats 1000000 in
theorem r_rr93 (l : Launch) (mem : jH) (B : Nat → Int) (N p : Nat) (f : Int) (k9 : RDR mem B N p f) (f9 : f ≠ 0) (many wh way nb : Int) (mb : 0 ≤ many ∧ many ≤ 64) (wb : 0 ≤ way ∧ way ≤ 40000) (hnb : mem 388 29 = nb) (nbb : 0 ≤ nb ∧ nb ≤ 64) (z4 : Int) (y5 : Option Value) (P : Option Value → jH → Prop) (hP : ∀ m2, RDR m2 B N p f → FRd mem m2 → P none m2) : jT l 282 93 [some (.ref 388), some (.int (jI (many))), some (.int (jI (wh))), some (.int (jI (way))), some (.int (jI (z4))), y5] [] mem P := by
  have k8 := k9.2.2.2.2.2.2.2
  have k7 := k9.2.2.1
  refine tl_iload_n rfl rfl ?_
  refine tl_iconst rfl ?_
  refine tl_icmp_ne (tgt := 105) rfl rfl ⟨by omega, by omega⟩ ⟨by omega, by omega⟩ (fun c1 => ?_) (fun c1 => ?_)
  · skip
    refine tl_iconst rfl ?_
    refine tl_istore rfl (Nat.le_of_ble_eq_true rfl) rfl ?_
    refine tl_aload_n rfl rfl ?_
    show jT _ _ 109 _ _ _ _
    refine tl_geti (c := 12) (k9 := 33) rfl rfl rfl ?_
    first | rw [k1.2.2.1] | rw [k7]
    refine tl_if_ne (tgt := 123) rfl rfl ⟨by omega, by omega⟩ (fun c2 => ?_) (fun c2 => ?_)
    · skip
      show jT _ _ 123 _ _ _ _
      -- leaf 0 at 123
      exact r_rr123 l mem B N p f k9 f9 many wh way nb mb wb hnb nbb _ _ P hP
    · show jT _ _ 115 _ _ _ _
      exfalso; omega
  · show jT _ _ 98 _ _ _ _
    refine tl_aload_n rfl rfl ?_
    refine tl_v0i (c9 := 12) (r_nextByte l mem B N p f k9) rfl rfl rfl rfl rfl (Nat.le_of_ble_eq_true rfl) (fun z1 h1 p1 => ?_)
    obtain ⟨e1, k1, f1⟩ := p1
    rw [rbR_z f9] at k1
    change RDR h1 B N p f at k1
    refine tl_goto (tgt := 106) rfl rfl ?_
    refine tl_istore rfl (Nat.le_of_ble_eq_true rfl) rfl ?_
    refine tl_aload_n rfl rfl ?_
    show jT _ _ 109 _ _ _ _
    refine tl_geti (c := 12) (k9 := 33) rfl rfl rfl ?_
    first | rw [k1.2.2.1] | rw [k7]
    refine tl_if_ne (tgt := 123) rfl rfl ⟨by omega, by omega⟩ (fun c3 => ?_) (fun c3 => ?_)
    · skip
      show jT _ _ 123 _ _ _ _
      -- leaf 1 at 123
      exact r_rr123 l h1 B N p f k1 f9 many wh way nb mb wb (by rw [f1.2 29 (by decide) (by decide)]; exact hnb) nbb _ _ P (fun m2 a b => hP m2 a (f1.trans b))
    · show jT _ _ 115 _ _ _ _
      exfalso; omega
set_option maxRecDepth 20000 in
set_option maxHeartbeats 1000000 in
theorem r_rr60 (l : Launch) (mem : jH) (B : Nat → Int) (N p : Nat) (f : Int) (k9 : RDR mem B N p f) (f9 : f ≠ 0) (many wh way nb : Int) (mb : 0 ≤ many ∧ many ≤ 64) (wb : 0 ≤ way ∧ way ≤ 40000) (hnb : mem 388 29 = nb) (nbb : 0 ≤ nb ∧ nb ≤ 64) (z4 : Int) (zb4 : 0 ≤ z4 ∧ z4 ≤ 40000) (y4 y5 : Option Value) (P : Option Value → jH → Prop) (hP : ∀ m2, RDR m2 B N p f → FRd mem m2 → P none m2) : jT l 282 60 [some (.ref 388), some (.int (jI (many))), some (.int (jI (wh))), some (.int (jI (way))), y4, y5] [.int (jI z4)] mem P := by
  have k8 := k9.2.2.2.2.2.2.2
  have k7 := k9.2.2.1
  refine tl_istore rfl (Nat.le_of_ble_eq_true rfl) rfl ?_
  refine tl_aload_n rfl rfl ?_
  refine tl_iload rfl rfl ?_
  refine tl_iload_n rfl rfl ?_
  refine tl_aload_n rfl rfl ?_
  refine tl_geti (c := 12) (k9 := 29) rfl rfl rfl ?_
  rw [hnb]
  show jT _ _ 70 _ _ _ _
  refine tl_isub rfl ?_
  refine tl_icmp_gt (tgt := 84) rfl rfl ⟨by omega, by omega⟩ ⟨by omega, by omega⟩ (fun c1 => ?_) (fun c1 => ?_)
  · skip
    refine tl_iconst rfl ?_
    refine tl_goto (tgt := 89) rfl rfl ?_
    refine tl_iconst rfl ?_
    refine tl_v2v (c9 := 12) (r_fails l mem B N p f k9 _ 5 (by omega) (by omega) (by omega)) rfl rfl rfl rfl rfl (Nat.le_of_ble_eq_true rfl) (fun h1 p1 => ?_)
    obtain ⟨k1, f1⟩ := p1
    rw [if_neg (by omega)] at k1
    show jT _ _ 93 _ _ _ _
    -- leaf 0 at 93
    exact r_rr93 l h1 B N p f k1 f9 many wh way nb mb wb (by rw [f1.2 29 (by decide) (by decide)]; exact hnb) nbb _ _ P (fun m2 a b => hP m2 a (f1.trans b))
  · show jT _ _ 74 _ _ _ _
    refine tl_iload_n rfl rfl ?_
    show jT _ _ 75 _ _ _ _
    refine tl_iconst rfl ?_
    refine tl_icmp_ne (tgt := 88) rfl rfl ⟨by omega, by omega⟩ ⟨by omega, by omega⟩ (fun c2 => ?_) (fun c2 => ?_)
    · skip
      refine tl_iconst rfl ?_
      refine tl_iconst rfl ?_
      refine tl_v2v (c9 := 12) (r_fails l mem B N p f k9 _ 5 (by omega) (by omega) (by omega)) rfl rfl rfl rfl rfl (Nat.le_of_ble_eq_true rfl) (fun h1 p1 => ?_)
      obtain ⟨k1, f1⟩ := p1
      rw [if_neg (by omega)] at k1
      show jT _ _ 93 _ _ _ _
      -- leaf 1 at 93
      exact r_rr93 l h1 B N p f k1 f9 many wh way nb mb wb (by rw [f1.2 29 (by decide) (by decide)]; exact hnb) nbb _ _ P (fun m2 a b => hP m2 a (f1.trans b))
    · show jT _ _ 79 _ _ _ _
      refine tl_iload rfl rfl ?_
      refine tl_if_ne (tgt := 88) rfl rfl ⟨by omega, by omega⟩ (fun c3 => ?_) (fun c3 => ?_)
      · skip
        show jT _ _ 88 _ _ _ _
        refine tl_iconst rfl ?_
        refine tl_iconst rfl ?_
        refine tl_v2v (c9 := 12) (r_fails l mem B N p f k9 _ 5 (by omega) (by omega) (by omega)) rfl rfl rfl rfl rfl (Nat.le_of_ble_eq_true rfl) (fun h1 p1 => ?_)
        obtain ⟨k1, f1⟩ := p1
        rw [if_neg (by omega)] at k1
        show jT _ _ 93 _ _ _ _
        -- leaf 2 at 93
        exact r_rr93 l h1 B N p f k1 f9 many wh way nb mb wb (by rw [f1.2 29 (by decide) (by decide)]; exact hnb) nbb _ _ P (fun m2 a b => hP m2 a (f1.trans b))
      · show jT _ _ 84 _ _ _ _
        refine tl_iconst rfl ?_
        refine tl_goto (tgt := 89) rfl rfl ?_
        refine tl_iconst rfl ?_
        refine tl_v2v (c9 := 12) (r_fails l mem B N p f k9 _ 5 (by omega) (by omega) (by omega)) rfl rfl rfl rfl rfl (Nat.le_of_ble_eq_true rfl) (fun h1 p1 => ?_)
        obtain ⟨k1, f1⟩ := p1
        rw [if_neg (by omega)] at k1
        show jT _ _ 93 _ _ _ _
        -- leaf 3 at 93
        exact r_rr93 l h1 B N p f k1 f9 many wh way nb mb wb (by rw [f1.2 29 (by decide) (by decide)]; exact hnb) nbb _ _ P (fun m2 a b => hP m2 a (f1.trans b))
set_option maxRecDepth 20000 in
set_option maxHeartbeats 1000000 in
theorem r_rr175 (l : Launch) (mem : jH) (B : Nat → Int) (N p : Nat) (f : Int) (k9 : RDR mem B N p f) (f9 : f ≠ 0) (many wh way nb : Int) (mb : 0 ≤ many ∧ many ≤ 64) (wb : 0 ≤ way ∧ way ≤ 40000) (hnb : mem 388 29 = nb) (nbb : 0 ≤ nb ∧ nb ≤ 64) (z4 : Int) (zb4 : 0 ≤ z4 ∧ z4 ≤ 40000) (y5 : Option Value) (P : Option Value → jH → Prop) (hP : ∀ m2, RDR m2 B N p f → FRd mem m2 → P none m2) : jT l 282 175 [some (.ref 388), some (.int (jI (many))), some (.int (jI (wh))), some (.int (jI (way))), some (.int (jI (z4))), y5] [] mem P := by
  have k8 := k9.2.2.2.2.2.2.2
  have k7 := k9.2.2.1
  refine tl_aload_n rfl rfl ?_
  refine tl_iload rfl rfl ?_
  refine tl_v1v (c9 := 12) (r_readBytesZ l mem z4 (by omega) f k7 f9 k8) rfl rfl rfl rfl rfl (Nat.le_of_ble_eq_true rfl) (fun h1 p1 => ?_)
  have p1 := p1.symm
  subst p1
  show jT _ _ 181 _ _ _ _
  -- leaf 0 at 181
  exact r_rr181 l mem B N p f k9 f9 many wh way nb mb wb hnb nbb _ _ P hP
set_option maxRecDepth 20000 in
set_option maxHeartbeats 1000000 in
theorem r_rr147 (l : Launch) (mem : jH) (B : Nat → Int) (N p : Nat) (f : Int) (k9 : RDR mem B N p f) (f9 : f ≠ 0) (many wh way nb : Int) (mb : 0 ≤ many ∧ many ≤ 64) (wb : 0 ≤ way ∧ way ≤ 40000) (hnb : mem 388 29 = nb) (nbb : 0 ≤ nb ∧ nb ≤ 64) (z4 : Int) (zb4 : 0 ≤ z4 ∧ z4 ≤ 40000) (y4 y5 : Option Value) (P : Option Value → jH → Prop) (hP : ∀ m2, RDR m2 B N p f → FRd mem m2 → P none m2) : jT l 282 147 [some (.ref 388), some (.int (jI (many))), some (.int (jI (wh))), some (.int (jI (way))), y4, y5] [.int (jI z4)] mem P := by
  have k8 := k9.2.2.2.2.2.2.2
  have k7 := k9.2.2.1
  refine tl_istore rfl (Nat.le_of_ble_eq_true rfl) rfl ?_
  refine tl_aload_n rfl rfl ?_
  refine tl_iload rfl rfl ?_
  refine tl_iload_n rfl rfl ?_
  refine tl_aload_n rfl rfl ?_
  refine tl_geti (c := 12) (k9 := 29) rfl rfl rfl ?_
  rw [hnb]
  show jT _ _ 157 _ _ _ _
  refine tl_isub rfl ?_
  refine tl_icmp_gt (tgt := 166) rfl rfl ⟨by omega, by omega⟩ ⟨by omega, by omega⟩ (fun c1 => ?_) (fun c1 => ?_)
  · skip
    refine tl_iconst rfl ?_
    refine tl_goto (tgt := 171) rfl rfl ?_
    refine tl_iconst rfl ?_
    refine tl_v2v (c9 := 12) (r_fails l mem B N p f k9 _ 5 (by omega) (by omega) (by omega)) rfl rfl rfl rfl rfl (Nat.le_of_ble_eq_true rfl) (fun h1 p1 => ?_)
    obtain ⟨k1, f1⟩ := p1
    rw [if_neg (by omega)] at k1
    show jT _ _ 175 _ _ _ _
    -- leaf 0 at 175
    exact r_rr175 l h1 B N p f k1 f9 many wh way nb mb wb (by rw [f1.2 29 (by decide) (by decide)]; exact hnb) nbb _ zb4 _ P (fun m2 a b => hP m2 a (f1.trans b))
  · show jT _ _ 161 _ _ _ _
    refine tl_iload rfl rfl ?_
    show jT _ _ 163 _ _ _ _
    refine tl_if_ne (tgt := 170) rfl rfl ⟨by omega, by omega⟩ (fun c2 => ?_) (fun c2 => ?_)
    · skip
      refine tl_iconst rfl ?_
      refine tl_iconst rfl ?_
      refine tl_v2v (c9 := 12) (r_fails l mem B N p f k9 _ 5 (by omega) (by omega) (by omega)) rfl rfl rfl rfl rfl (Nat.le_of_ble_eq_true rfl) (fun h1 p1 => ?_)
      obtain ⟨k1, f1⟩ := p1
      rw [if_neg (by omega)] at k1
      show jT _ _ 175 _ _ _ _
      -- leaf 1 at 175
      exact r_rr175 l h1 B N p f k1 f9 many wh way nb mb wb (by rw [f1.2 29 (by decide) (by decide)]; exact hnb) nbb _ zb4 _ P (fun m2 a b => hP m2 a (f1.trans b))
    · show jT _ _ 166 _ _ _ _
      refine tl_iconst rfl ?_
      refine tl_goto (tgt := 171) rfl rfl ?_
      refine tl_iconst rfl ?_
      show jT _ _ 172 _ _ _ _
      refine tl_v2v (c9 := 12) (r_fails l mem B N p f k9 _ 5 (by omega) (by omega) (by omega)) rfl rfl rfl rfl rfl (Nat.le_of_ble_eq_true rfl) (fun h1 p1 => ?_)
      obtain ⟨k1, f1⟩ := p1
      rw [if_neg (by omega)] at k1
      show jT _ _ 175 _ _ _ _
      -- leaf 2 at 175
      exact r_rr175 l h1 B N p f k1 f9 many wh way nb mb wb (by rw [f1.2 29 (by decide) (by decide)]; exact hnb) nbb _ zb4 _ P (fun m2 a b => hP m2 a (f1.trans b))
