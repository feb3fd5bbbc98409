/-! recipes: tokens, of the reference -/
theorem je_l2iw {l : Launch} {j pc : Nat} {L : jLo} {st : List Value} {G G' : jG} {v : Option Value} {x : Int} (hi : jIns j pc = some (.l2i, 1, 0)) (k : jE l j (pc + 1) L (.int (jI x) :: st) G v G') : jE l j pc L (.long (jl x) :: st) G v G' := by
  intro p e R s m args below meth c D dA base ro N0 S0 Q ls H locs cells slots hC hc hs hend hL hI
  exact lv_l2i hC.1 hC.2.1 (jdec hi).1 (show (jl x).toInt32 = jI x from Int64.toInt32_ofInt) (k p e R s m args below meth c D dA base ro N0 S0 Q ls H locs cells slots hC hc hs hend hL hI)
theorem tl_l2iw {l : Launch} {j pc : Nat} {L : jLo} {st : List Value} {h : jH} {P : Option Value → jH → Prop} {x : Int} (hi : jIns j pc = some (.l2i, 1, 0)) (k : jT l j (pc + 1) L (.int (jI x) :: st) h P) : jT l j pc L (.long (jl x) :: st) h P := by
  obtain ⟨v, h', hp, hE⟩ := k
  exact ⟨v, h', hp, je_l2iw hi hE⟩
def TXR (h : jH) (B : Nat → Int) (N : Nat) : Prop := h 388 8 = (N : Int) ∧ (∀ i, i < N → h 393 i = B i) ∧ N ≤ 400 ∧ ∀ i, i < N → byt (B i)
def FRn (h h' : jH) : Prop := (∀ x, x ≠ 388 → h' x = h x) ∧ ∀ q, (q < 55 ∨ 58 < q) → h' 388 q = h 388 q
theorem FRn.rfl9 {h : jH} : FRn h h := ⟨fun _ _ => rfl, fun _ _ => rfl⟩
theorem FRn.trans {a b c : jH} (h1 : FRn a b) (h2 : FRn b c) : FRn a c := ⟨fun y a1 => (h2.1 y a1).trans (h1.1 y a1), fun q a1 => (h2.2 q a1).trans (h1.2 q a1)⟩
theorem FRn.s {h : jH} {k : Nat} {v : Int} (hk : 55 ≤ k) (hk2 : k ≤ 58) : FRn h (hs h 388 k v) := ⟨fun x hx => hs_O hx, fun q a => hs_k (by omega)⟩
theorem TXR.of {h h' : jH} {B : Nat → Int} {N : Nat} (k : TXR h B N) (f : FRn h h') : TXR h' B N := ⟨by rw [f.2 8 (by omega)]; exact k.1, fun i hi => by rw [f.1 393 (by decide)]; exact k.2.1 i hi, k.2.2⟩
def TR (h : jH) (B : Nat → Int) (N f : Nat) : Prop := TXR h B N ∧ h 388 55 = (f : Int) ∧ h 388 56 = (te B N f : Int) ∧ h 388 57 = srt9 B N f ∧ h 388 58 = wo B N f ∧ f ≤ N
set_option maxRecDepth 20000 in
set_option maxHeartbeats 1000000 in
theorem r_isLetter (l : Launch) (h : jH) (c : Int) (c0 : -1 ≤ c) (c1 : c ≤ 255) : cI l 317 [.int (jI c)] h (fun z h' => h' = h ∧ z = zb (lt9 c)) := by
  refine cI.ofZ rfl rfl ?_
  refine tl_iload_n rfl rfl ?_
  refine tl_bipush rfl rfl ?_
  refine tl_icmp_lt (tgt := 16) rfl rfl ⟨by omega, by omega⟩ ⟨by omega, by omega⟩ (fun c1 => ?_) (fun c1 => ?_)
  · skip
    refine tl_iconst rfl ?_
    refine tl_iret rfl ?_
    -- leaf 0 at 17
    first
      | (refine ⟨1, rfl, Or.inr rfl, rfl, ?_⟩; rw [lt9_t.mpr ⟨by omega, by omega⟩]; rfl)
      | (refine ⟨0, rfl, Or.inl rfl, rfl, ?_⟩; rw [lt9_f.mpr (by omega)]; rfl)
  · show jT _ _ 6 _ _ _ _
    refine tl_iload_n rfl rfl ?_
    show jT _ _ 7 _ _ _ _
    refine tl_bipush rfl rfl ?_
    refine tl_icmp_gt (tgt := 16) rfl rfl ⟨by omega, by omega⟩ ⟨by omega, by omega⟩ (fun c2 => ?_) (fun c2 => ?_)
    · skip
      refine tl_iconst rfl ?_
      refine tl_iret rfl ?_
      -- leaf 1 at 17
      first
        | (refine ⟨1, rfl, Or.inr rfl, rfl, ?_⟩; rw [lt9_t.mpr ⟨by omega, by omega⟩]; rfl)
        | (refine ⟨0, rfl, Or.inl rfl, rfl, ?_⟩; rw [lt9_f.mpr (by omega)]; rfl)
    · show jT _ _ 12 _ _ _ _
      refine tl_iconst rfl ?_
      refine tl_goto (tgt := 17) rfl rfl ?_
      refine tl_iret rfl ?_
      -- leaf 2 at 17
      first
        | (refine ⟨1, rfl, Or.inr rfl, rfl, ?_⟩; rw [lt9_t.mpr ⟨by omega, by omega⟩]; rfl)
        | (refine ⟨0, rfl, Or.inl rfl, rfl, ?_⟩; rw [lt9_f.mpr (by omega)]; rfl)
set_option maxRecDepth 20000 in
set_option maxHeartbeats 1000000 in
theorem r_isDig (l : Launch) (h : jH) (c : Int) (c0 : -1 ≤ c) (c1 : c ≤ 255) : cI l 318 [.int (jI c)] h (fun z h' => h' = h ∧ z = zb (dt9 c)) := by
  refine cI.ofZ rfl rfl ?_
  refine tl_iload_n rfl rfl ?_
  refine tl_bipush rfl rfl ?_
  refine tl_icmp_lt (tgt := 16) rfl rfl ⟨by omega, by omega⟩ ⟨by omega, by omega⟩ (fun c1 => ?_) (fun c1 => ?_)
  · skip
    refine tl_iconst rfl ?_
    refine tl_iret rfl ?_
    -- leaf 0 at 17
    first
      | (refine ⟨1, rfl, Or.inr rfl, rfl, ?_⟩; rw [dt9_t.mpr ⟨by omega, by omega⟩]; rfl)
      | (refine ⟨0, rfl, Or.inl rfl, rfl, ?_⟩; rw [dt9_f.mpr (by omega)]; rfl)
  · show jT _ _ 6 _ _ _ _
    refine tl_iload_n rfl rfl ?_
    show jT _ _ 7 _ _ _ _
    refine tl_bipush rfl rfl ?_
    refine tl_icmp_gt (tgt := 16) rfl rfl ⟨by omega, by omega⟩ ⟨by omega, by omega⟩ (fun c2 => ?_) (fun c2 => ?_)
    · skip
      refine tl_iconst rfl ?_
      refine tl_iret rfl ?_
      -- leaf 1 at 17
      first
        | (refine ⟨1, rfl, Or.inr rfl, rfl, ?_⟩; rw [dt9_t.mpr ⟨by omega, by omega⟩]; rfl)
        | (refine ⟨0, rfl, Or.inl rfl, rfl, ?_⟩; rw [dt9_f.mpr (by omega)]; rfl)
    · show jT _ _ 12 _ _ _ _
      refine tl_iconst rfl ?_
      refine tl_goto (tgt := 17) rfl rfl ?_
      refine tl_iret rfl ?_
      -- leaf 2 at 17
      first
        | (refine ⟨1, rfl, Or.inr rfl, rfl, ?_⟩; rw [dt9_t.mpr ⟨by omega, by omega⟩]; rfl)
        | (refine ⟨0, rfl, Or.inl rfl, rfl, ?_⟩; rw [dt9_f.mpr (by omega)]; rfl)
set_option maxRecDepth 20000 in
set_option maxHeartbeats 1000000 in
theorem r_nt_A (l : Launch) (h : jH) (B : Nat → Int) (N : Nat) (tx : TXR h B N) (P : Option Value → jH → Prop) (X : Nat) (hx : ∀ mem, (FRn h mem ∧ mem 388 55 = (X : Int)) → jT l 319 46 [some (.ref 388)] [] mem P) : ∀ (m : Nat) (q : Nat) (mem : jH), N - q < m → (q ≤ N ∧ skw B N q = X ∧ FRn h mem ∧ mem 388 55 = (q : Int)) → jT l 319 8 [some (.ref 388)] [] mem P := by
  have n400 := tx.2.2.1
  intro m
  induction m with
  | zero => intro q mem hk; omega
  | succ m ih =>
    intro q mem hk hi
    obtain ⟨i0, i1, fr, e3⟩ := hi
    have txm := tx.of fr
    have eN := txm.1
    have bq9 : N ≤ q ∨ (q < N ∧ mem 393 q = B q ∧ 0 ≤ B q ∧ B q ≤ 255) := by
      by_cases c : q < N
      · have t := tx.2.2.2 (q) c
        unfold byt at t
        exact Or.inr ⟨c, txm.2.1 _ c, t.1, t.2⟩
      · exact Or.inl (by omega)
    refine tl_aload_n rfl rfl ?_
    refine tl_geti (c := 12) (k9 := 55) rfl rfl rfl ?_
    rw [e3]
    refine tl_aload_n rfl rfl ?_
    refine tl_geti (c := 12) (k9 := 8) rfl rfl rfl ?_
    rw [eN]
    refine tl_icmp_ge (tgt := 46) rfl rfl ⟨by omega, by omega⟩ ⟨by omega, by omega⟩ (fun c1 => ?_) (fun c1 => ?_)
    · skip
      show jT _ _ 46 _ _ _ _
      -- leaf 0 at 46
      have e : skw B N q = q := by
        unfold skw
        refine spn_f ?_
        by_cases c : q < N
        · exact Or.inr (sc9_f.mpr (by omega))
        · exact Or.inl (by omega)
      rw [e] at i1
      exact hx mem ⟨fr, by rw [e3, i1]⟩
    · show jT _ _ 19 _ _ _ _
      refine tl_aload_n rfl rfl ?_
      show jT _ _ 20 _ _ _ _
      refine tl_getr (c := 12) (k9 := 7) (b := 393) rfl rfl rfl rfl ?_
      refine tl_aload_n rfl rfl ?_
      refine tl_geti (c := 12) (k9 := 55) rfl rfl rfl ?_
      rw [e3]
      refine tl_iald (n := 400) rfl rfl rfl (by omega) (by omega) ?_
      rw [Int.toNat_natCast, show mem 393 q = B q by omega]
      refine tl_bipush rfl rfl ?_
      refine tl_icmp_ne (tgt := 46) rfl rfl ⟨by omega, by omega⟩ ⟨by omega, by omega⟩ (fun c2 => ?_) (fun c2 => ?_)
      · skip
        show jT _ _ 46 _ _ _ _
        -- leaf 1 at 46
        have e : skw B N q = q := by
          unfold skw
          refine spn_f ?_
          by_cases c : q < N
          · exact Or.inr (sc9_f.mpr (by omega))
          · exact Or.inl (by omega)
        rw [e] at i1
        exact hx mem ⟨fr, by rw [e3, i1]⟩
      · show jT _ _ 33 _ _ _ _
        refine tl_aload_n rfl rfl ?_
        show jT _ _ 34 _ _ _ _
        refine tl_dup rfl rfl ?_
        refine tl_geti (c := 12) (k9 := 55) rfl rfl rfl ?_
        rw [e3]
        refine tl_iconst rfl ?_
        refine tl_iadd rfl ?_
        refine tl_puti (c := 12) (k9 := 55) rfl rfl rfl rfl ?_
        refine tl_goto (tgt := 8) rfl rfl ?_
        show jT _ _ 8 _ _ _ _
        -- leaf 2 at 8
        have c : q < N := by omega
        have e : skw B N q = skw B N (q + 1) := by
          unfold skw
          exact spn_t c (sc9_t.mpr (by omega))
        rw [e] at i1
        exact ih (q + 1) _ (by omega) ⟨by omega, i1, fr.trans (FRn.s (by decide) (by decide)), by rw [hs_s]; omega⟩
set_option maxRecDepth 20000 in
set_option maxHeartbeats 1000000 in
theorem r_nt_B (l : Launch) (h : jH) (B : Nat → Int) (N : Nat) (tx : TXR h B N) (f : Nat) (fN : f < N) (hs9 : srt9 B N f = 1) (P : Option Value → jH → Prop) (hP : ∀ mem, (FRn h mem ∧ mem 388 55 = (f : Int) ∧ mem 388 57 = 1 ∧ mem 388 56 = (te B N f : Int) ∧ mem 388 58 = wL B f (te B N f - f)) → P none mem) : ∀ (m : Nat) (i : Nat) (mem : jH), N - (f + i) < m → (f + i ≤ te B N f ∧ spn B lt9 (N - (f + i)) (f + i) = te B N f ∧ FRn h mem ∧ mem 388 55 = (f : Int) ∧ mem 388 57 = 1 ∧ mem 388 56 = ((f + i : Nat) : Int) ∧ mem 388 58 = wL B f i) → jT l 319 149 [some (.ref 388)] [] mem P := by
  have n400 := tx.2.2.1
  have tb := te_b (B := B) (show f ≤ N by omega)
  have tl := (te_l (show f ≤ N by omega) hs9).2
  intro m
  induction m with
  | zero => intro i mem hk; omega
  | succ m ih =>
    intro i mem hk hi
    obtain ⟨i0, i1, fr, e5, e7, e6, e8⟩ := hi
    have txm := tx.of fr
    have eN := txm.1
    have bq9 : N ≤ (f + i) ∨ ((f + i) < N ∧ mem 393 (f + i) = B (f + i) ∧ 0 ≤ B (f + i) ∧ B (f + i) ≤ 255) := by
      by_cases c : (f + i) < N
      · have t := tx.2.2.2 ((f + i)) c
        unfold byt at t
        exact Or.inr ⟨c, txm.2.1 _ c, t.1, t.2⟩
      · exact Or.inl (by omega)
    refine tl_aload_n rfl rfl ?_
    refine tl_geti (c := 12) (k9 := 57) rfl rfl rfl ?_
    rw [e7]
    refine tl_iconst rfl ?_
    refine tl_icmp_ne (tgt := 243) rfl rfl ⟨by omega, by omega⟩ ⟨by omega, by omega⟩ (fun c1 => ?_) (fun c1 => ?_)
    · skip
      exfalso; omega
    · show jT _ _ 157 _ _ _ _
      refine tl_aload_n rfl rfl ?_
      refine tl_geti (c := 12) (k9 := 56) rfl rfl rfl ?_
      rw [e6]
      show jT _ _ 161 _ _ _ _
      refine tl_aload_n rfl rfl ?_
      refine tl_geti (c := 12) (k9 := 8) rfl rfl rfl ?_
      rw [eN]
      refine tl_icmp_ge (tgt := 243) rfl rfl ⟨by omega, by omega⟩ ⟨by omega, by omega⟩ (fun c2 => ?_) (fun c2 => ?_)
      · skip
        refine tl_aload_n rfl rfl ?_
        refine tl_geti (c := 12) (k9 := 57) rfl rfl rfl ?_
        rw [e7]
        refine tl_iconst rfl ?_
        refine tl_icmp_ne (tgt := 335) rfl rfl ⟨by omega, by omega⟩ ⟨by omega, by omega⟩ (fun c3 => ?_) (fun c3 => ?_)
        · skip
          show jT _ _ 335 _ _ _ _
          refine tl_ret rfl ?_
          -- leaf 0 at 335
          have e : spn B lt9 (N - (f + i)) (f + i) = f + i := by
            refine spn_f ?_
            by_cases c : f + i < N
            · first
              | (exfalso; omega)
              | exact Or.inr ez
            · exact Or.inl (by omega)
          rw [e] at i1
          have ei : te B N f - f = i := by omega
          refine hP mem ⟨fr, e5, e7, ?_, ?_⟩
          · rw [e6]; omega
          · rw [e8, ei]
        · show jT _ _ 251 _ _ _ _
          exfalso; omega
      · show jT _ _ 168 _ _ _ _
        refine tl_aload_n rfl rfl ?_
        refine tl_getr (c := 12) (k9 := 7) (b := 393) rfl rfl rfl rfl ?_
        refine tl_aload_n rfl rfl ?_
        refine tl_geti (c := 12) (k9 := 56) rfl rfl rfl ?_
        rw [e6]
        refine tl_iald (n := 400) rfl rfl rfl (by omega) (by omega) ?_
        rw [Int.toNat_natCast, show mem 393 (f + i) = B (f + i) by omega]
        refine tl_s1i (r_isLetter l mem (B (f + i)) (by omega) (by omega)) rfl rfl rfl (Nat.le_of_ble_eq_true rfl) (fun z2 h2 p2 => ?_)
        obtain ⟨q2, rfl⟩ := p2
        have q2 := q2.symm
        subst q2
        have b2 := zb_b (lt9 (B (f + i)))
        show jT _ _ 180 _ _ _ _
        refine tl_if_eq (tgt := 243) rfl rfl ⟨by omega, by omega⟩ (fun c4 => ?_) (fun c4 => ?_)
        · skip
          have ez := zb0 c4
          refine tl_aload_n rfl rfl ?_
          refine tl_geti (c := 12) (k9 := 57) rfl rfl rfl ?_
          rw [e7]
          refine tl_iconst rfl ?_
          refine tl_icmp_ne (tgt := 335) rfl rfl ⟨by omega, by omega⟩ ⟨by omega, by omega⟩ (fun c5 => ?_) (fun c5 => ?_)
          · skip
            refine tl_ret rfl ?_
            -- leaf 1 at 335
            have e : spn B lt9 (N - (f + i)) (f + i) = f + i := by
              refine spn_f ?_
              by_cases c : f + i < N
              · first
                | (exfalso; omega)
                | exact Or.inr ez
              · exact Or.inl (by omega)
            rw [e] at i1
            have ei : te B N f - f = i := by omega
            refine hP mem ⟨fr, e5, e7, ?_, ?_⟩
            · rw [e6]; omega
            · rw [e8, ei]
          · show jT _ _ 251 _ _ _ _
            exfalso; omega
        · show jT _ _ 183 _ _ _ _
          have ez := zb1' c4
          refine tl_aload_n rfl rfl ?_
          show jT _ _ 184 _ _ _ _
          refine tl_aload_n rfl rfl ?_
          refine tl_geti (c := 12) (k9 := 56) rfl rfl rfl ?_
          rw [e6]
          refine tl_aload_n rfl rfl ?_
          refine tl_geti (c := 12) (k9 := 55) rfl rfl rfl ?_
          rw [e5]
          refine tl_isub rfl ?_
          refine tl_bipush rfl rfl ?_
          refine tl_icmp_ge (tgt := 224) rfl rfl ⟨by omega, by omega⟩ ⟨by omega, by omega⟩ (fun c6 => ?_) (fun c6 => ?_)
          · skip
            show jT _ _ 224 _ _ _ _
            refine tl_ldc2 (z := -1) rfl (by decide +kernel) ?_
            refine tl_putl (c := 12) (k9 := 58) rfl rfl rfl rfl ?_
            refine tl_aload_n rfl rfl ?_
            refine tl_dup rfl rfl ?_
            refine tl_geti (c := 12) (k9 := 56) rfl rfl rfl ?_
            rw [hs_k (by decide), e6]
            refine tl_iconst rfl ?_
            refine tl_iadd rfl ?_
            show jT _ _ 237 _ _ _ _
            refine tl_puti (c := 12) (k9 := 56) rfl rfl rfl rfl ?_
            refine tl_goto (tgt := 149) rfl rfl ?_
            show jT _ _ 149 _ _ _ _
            -- leaf 2 at 149
            have c : f + i < N := by omega
            have e : spn B lt9 (N - (f + i)) (f + i) = spn B lt9 (N - (f + i + 1)) (f + i + 1) := spn_t c ez
            have sb := (spn_b (B := B) (P := lt9) (N := N) (N - (f + i + 1) + 1) (f + i + 1) (by omega) (by omega)).1
            rw [e] at i1
            refine ih (i + 1) _ (by omega) ⟨by omega, i1, (fr.trans (FRn.s (by decide) (by decide))).trans (FRn.s (by decide) (by decide)), by rw [hs_k (by decide), hs_k (by decide)]; exact e5, by rw [hs_k (by decide), hs_k (by decide)]; exact e7, by rw [hs_s]; omega, ?_⟩
            rw [hs_k (by decide), hs_s, wL]
            first
              | (rw [if_pos (by omega)])
              | (rw [if_neg (by omega)])
          · show jT _ _ 198 _ _ _ _
            refine tl_aload_n rfl rfl ?_
            refine tl_getl (c := 12) (k9 := 58) rfl rfl rfl ?_
            rw [e8]
            refine tl_ldc2 (z := 32) rfl (by decide +kernel) ?_
            refine tl_lmul rfl ?_
            refine tl_aload_n rfl rfl ?_
            show jT _ _ 207 _ _ _ _
            refine tl_getr (c := 12) (k9 := 7) (b := 393) rfl rfl rfl rfl ?_
            refine tl_aload_n rfl rfl ?_
            refine tl_geti (c := 12) (k9 := 56) rfl rfl rfl ?_
            rw [e6]
            refine tl_iald (n := 400) rfl rfl rfl (by omega) (by omega) ?_
            rw [Int.toNat_natCast, show mem 393 (f + i) = B (f + i) by omega]
            refine tl_i2l rfl ⟨by omega, by omega⟩ ?_
            refine tl_ladd rfl ?_
            refine tl_ldc2 (z := 96) rfl (by decide +kernel) ?_
            show jT _ _ 220 _ _ _ _
            refine tl_lsub rfl ?_
            refine tl_goto (tgt := 227) rfl rfl ?_
            refine tl_putl (c := 12) (k9 := 58) rfl rfl rfl rfl ?_
            refine tl_aload_n rfl rfl ?_
            refine tl_dup rfl rfl ?_
            refine tl_geti (c := 12) (k9 := 56) rfl rfl rfl ?_
            rw [hs_k (by decide), e6]
            refine tl_iconst rfl ?_
            show jT _ _ 236 _ _ _ _
            refine tl_iadd rfl ?_
            refine tl_puti (c := 12) (k9 := 56) rfl rfl rfl rfl ?_
            refine tl_goto (tgt := 149) rfl rfl ?_
            show jT _ _ 149 _ _ _ _
            -- leaf 3 at 149
            have c : f + i < N := by omega
            have e : spn B lt9 (N - (f + i)) (f + i) = spn B lt9 (N - (f + i + 1)) (f + i + 1) := spn_t c ez
            have sb := (spn_b (B := B) (P := lt9) (N := N) (N - (f + i + 1) + 1) (f + i + 1) (by omega) (by omega)).1
            rw [e] at i1
            refine ih (i + 1) _ (by omega) ⟨by omega, i1, (fr.trans (FRn.s (by decide) (by decide))).trans (FRn.s (by decide) (by decide)), by rw [hs_k (by decide), hs_k (by decide)]; exact e5, by rw [hs_k (by decide), hs_k (by decide)]; exact e7, by rw [hs_s]; omega, ?_⟩
            rw [hs_k (by decide), hs_s, wL]
            first
              | (rw [if_pos (by omega)])
              | (rw [if_neg (by omega)])
set_option maxRecDepth 20000 in
set_option maxHeartbeats 1000000 in
theorem r_nt_C (l : Launch) (h : jH) (B : Nat → Int) (N : Nat) (tx : TXR h B N) (f : Nat) (fN : f < N) (hs9 : srt9 B N f = 2) (P : Option Value → jH → Prop) (hP : ∀ mem, (FRn h mem ∧ mem 388 55 = (f : Int) ∧ mem 388 57 = 2 ∧ mem 388 56 = (te B N f : Int) ∧ mem 388 58 = dF B f (te B N f - f)) → P none mem) : ∀ (m : Nat) (i : Nat) (mem : jH), N - (f + i) < m → (f + i ≤ te B N f ∧ spn B dt9 (N - (f + i)) (f + i) = te B N f ∧ FRn h mem ∧ mem 388 55 = (f : Int) ∧ mem 388 57 = 2 ∧ mem 388 56 = ((f + i : Nat) : Int) ∧ mem 388 58 = dF B f i) → jT l 319 243 [some (.ref 388)] [] mem P := by
  have n400 := tx.2.2.1
  have tb := te_b (B := B) (show f ≤ N by omega)
  have tl := (te_d (show f ≤ N by omega) hs9).2
  intro m
  induction m with
  | zero => intro i mem hk; omega
  | succ m ih =>
    intro i mem hk hi
    obtain ⟨i0, i1, fr, e5, e7, e6, e8⟩ := hi
    have txm := tx.of fr
    have eN := txm.1
    have bq9 : N ≤ (f + i) ∨ ((f + i) < N ∧ mem 393 (f + i) = B (f + i) ∧ 0 ≤ B (f + i) ∧ B (f + i) ≤ 255) := by
      by_cases c : (f + i) < N
      · have t := tx.2.2.2 ((f + i)) c
        unfold byt at t
        exact Or.inr ⟨c, txm.2.1 _ c, t.1, t.2⟩
      · exact Or.inl (by omega)
    have nd := (ndF (B := B) (f := f) i (fun q hq => tl q (by omega))).2.1
    refine tl_aload_n rfl rfl ?_
    refine tl_geti (c := 12) (k9 := 57) rfl rfl rfl ?_
    rw [e7]
    refine tl_iconst rfl ?_
    refine tl_icmp_ne (tgt := 335) rfl rfl ⟨by omega, by omega⟩ ⟨by omega, by omega⟩ (fun c1 => ?_) (fun c1 => ?_)
    · skip
      exfalso; omega
    · show jT _ _ 251 _ _ _ _
      refine tl_aload_n rfl rfl ?_
      refine tl_geti (c := 12) (k9 := 56) rfl rfl rfl ?_
      rw [e6]
      show jT _ _ 255 _ _ _ _
      refine tl_aload_n rfl rfl ?_
      refine tl_geti (c := 12) (k9 := 8) rfl rfl rfl ?_
      rw [eN]
      refine tl_icmp_ge (tgt := 335) rfl rfl ⟨by omega, by omega⟩ ⟨by omega, by omega⟩ (fun c2 => ?_) (fun c2 => ?_)
      · skip
        refine tl_ret rfl ?_
        -- leaf 0 at 335
        have e : spn B dt9 (N - (f + i)) (f + i) = f + i := by
          refine spn_f ?_
          by_cases c : f + i < N
          · first
            | (exfalso; omega)
            | exact Or.inr ez
          · exact Or.inl (by omega)
        rw [e] at i1
        have ei : te B N f - f = i := by omega
        refine hP mem ⟨fr, e5, e7, ?_, ?_⟩
        · rw [e6]; omega
        · rw [e8, ei]
      · show jT _ _ 262 _ _ _ _
        refine tl_aload_n rfl rfl ?_
        refine tl_getr (c := 12) (k9 := 7) (b := 393) rfl rfl rfl rfl ?_
        refine tl_aload_n rfl rfl ?_
        show jT _ _ 267 _ _ _ _
        refine tl_geti (c := 12) (k9 := 56) rfl rfl rfl ?_
        rw [e6]
        refine tl_iald (n := 400) rfl rfl rfl (by omega) (by omega) ?_
        rw [Int.toNat_natCast, show mem 393 (f + i) = B (f + i) by omega]
        refine tl_s1i (r_isDig l mem (B (f + i)) (by omega) (by omega)) rfl rfl rfl (Nat.le_of_ble_eq_true rfl) (fun z2 h2 p2 => ?_)
        obtain ⟨q2, rfl⟩ := p2
        have q2 := q2.symm
        subst q2
        have b2 := zb_b (dt9 (B (f + i)))
        refine tl_if_eq (tgt := 335) rfl rfl ⟨by omega, by omega⟩ (fun c3 => ?_) (fun c3 => ?_)
        · skip
          have ez := zb0 c3
          refine tl_ret rfl ?_
          -- leaf 1 at 335
          have e : spn B dt9 (N - (f + i)) (f + i) = f + i := by
            refine spn_f ?_
            by_cases c : f + i < N
            · first
              | (exfalso; omega)
              | exact Or.inr ez
            · exact Or.inl (by omega)
          rw [e] at i1
          have ei : te B N f - f = i := by omega
          refine hP mem ⟨fr, e5, e7, ?_, ?_⟩
          · rw [e6]; omega
          · rw [e8, ei]
        · show jT _ _ 277 _ _ _ _
          have ez := zb1' c3
          refine tl_aload_n rfl rfl ?_
          refine tl_aload_n rfl rfl ?_
          show jT _ _ 279 _ _ _ _
          refine tl_getl (c := 12) (k9 := 58) rfl rfl rfl ?_
          rw [e8]
          refine tl_ldc2 (z := 1000000) rfl (by decide +kernel) ?_
          refine tl_lcmp rfl ⟨by omega, by omega⟩ ⟨by omega, by omega⟩ ?_
          have lc : (if (1000000 : Int) < dF B f i then (1 : Int) else if dF B f i = 1000000 then 0 else -1) = if 1000000 < dF B f i then 1 else if dF B f i = 1000000 then 0 else -1 := rfl
          have lc2 : ((1000000 : Int) < dF B f i ∧ (if (1000000 : Int) < dF B f i then (1 : Int) else if dF B f i = 1000000 then 0 else -1) = 1) ∨ (dF B f i ≤ 1000000 ∧ -1 ≤ (if (1000000 : Int) < dF B f i then (1 : Int) else if dF B f i = 1000000 then 0 else -1) ∧ (if (1000000 : Int) < dF B f i then (1 : Int) else if dF B f i = 1000000 then 0 else -1) ≤ 0) := by
            by_cases c : (1000000 : Int) < dF B f i
            · rw [if_pos c]; exact Or.inl ⟨c, rfl⟩
            · rw [if_neg c]; refine Or.inr ⟨by omega, ?_, ?_⟩ <;> split <;> omega
          refine tl_if_le (tgt := 296) rfl rfl ⟨by omega, by omega⟩ (fun c4 => ?_) (fun c4 => ?_)
          · skip
            refine tl_aload_n rfl rfl ?_
            refine tl_getl (c := 12) (k9 := 58) rfl rfl rfl ?_
            rw [e8]
            refine tl_ldc2 (z := 10) rfl (by decide +kernel) ?_
            show jT _ _ 303 _ _ _ _
            refine tl_lmul rfl ?_
            refine tl_aload_n rfl rfl ?_
            refine tl_getr (c := 12) (k9 := 7) (b := 393) rfl rfl rfl rfl ?_
            refine tl_aload_n rfl rfl ?_
            refine tl_geti (c := 12) (k9 := 56) rfl rfl rfl ?_
            rw [e6]
            refine tl_iald (n := 400) rfl rfl rfl (by omega) (by omega) ?_
            rw [Int.toNat_natCast, show mem 393 (f + i) = B (f + i) by omega]
            refine tl_i2l rfl ⟨by omega, by omega⟩ ?_
            show jT _ _ 314 _ _ _ _
            refine tl_ladd rfl ?_
            refine tl_ldc2 (z := 48) rfl (by decide +kernel) ?_
            refine tl_lsub rfl ?_
            refine tl_putl (c := 12) (k9 := 58) rfl rfl rfl rfl ?_
            refine tl_aload_n rfl rfl ?_
            refine tl_dup rfl rfl ?_
            refine tl_geti (c := 12) (k9 := 56) rfl rfl rfl ?_
            rw [hs_k (by decide), e6]
            show jT _ _ 327 _ _ _ _
            refine tl_iconst rfl ?_
            refine tl_iadd rfl ?_
            refine tl_puti (c := 12) (k9 := 56) rfl rfl rfl rfl ?_
            refine tl_goto (tgt := 243) rfl rfl ?_
            show jT _ _ 243 _ _ _ _
            -- leaf 2 at 243
            have c : f + i < N := by omega
            have e : spn B dt9 (N - (f + i)) (f + i) = spn B dt9 (N - (f + i + 1)) (f + i + 1) := spn_t c ez
            have sb := (spn_b (B := B) (P := dt9) (N := N) (N - (f + i + 1) + 1) (f + i + 1) (by omega) (by omega)).1
            rw [e] at i1
            refine ih (i + 1) _ (by omega) ⟨by omega, i1, (fr.trans (FRn.s (by decide) (by decide))).trans (FRn.s (by decide) (by decide)), by rw [hs_k (by decide), hs_k (by decide)]; exact e5, by rw [hs_k (by decide), hs_k (by decide)]; exact e7, by rw [hs_s]; omega, ?_⟩
            rw [hs_k (by decide), hs_s, dF]
            first
              | (rw [if_pos (by omega)])
              | (rw [if_neg (by omega)])
          · show jT _ _ 289 _ _ _ _
            refine tl_aload_n rfl rfl ?_
            refine tl_getl (c := 12) (k9 := 58) rfl rfl rfl ?_
            rw [e8]
            refine tl_goto (tgt := 319) rfl rfl ?_
            show jT _ _ 319 _ _ _ _
            refine tl_putl (c := 12) (k9 := 58) rfl rfl rfl rfl ?_
            refine tl_aload_n rfl rfl ?_
            refine tl_dup rfl rfl ?_
            refine tl_geti (c := 12) (k9 := 56) rfl rfl rfl ?_
            rw [hs_k (by decide), e6]
            refine tl_iconst rfl ?_
            refine tl_iadd rfl ?_
            refine tl_puti (c := 12) (k9 := 56) rfl rfl rfl rfl ?_
            show jT _ _ 332 _ _ _ _
            refine tl_goto (tgt := 243) rfl rfl ?_
            show jT _ _ 243 _ _ _ _
            -- leaf 3 at 243
            have c : f + i < N := by omega
            have e : spn B dt9 (N - (f + i)) (f + i) = spn B dt9 (N - (f + i + 1)) (f + i + 1) := spn_t c ez
            have sb := (spn_b (B := B) (P := dt9) (N := N) (N - (f + i + 1) + 1) (f + i + 1) (by omega) (by omega)).1
            rw [e] at i1
            refine ih (i + 1) _ (by omega) ⟨by omega, i1, (fr.trans (FRn.s (by decide) (by decide))).trans (FRn.s (by decide) (by decide)), by rw [hs_k (by decide), hs_k (by decide)]; exact e5, by rw [hs_k (by decide), hs_k (by decide)]; exact e7, by rw [hs_s]; omega, ?_⟩
            rw [hs_k (by decide), hs_s, dF]
            first
              | (rw [if_pos (by omega)])
              | (rw [if_neg (by omega)])
set_option maxRecDepth 20000 in
set_option maxHeartbeats 1000000 in
theorem r_nt_D (l : Launch) (mem : jH) (P : Option Value → jH → Prop) (s9 : Int) (e7 : mem 388 57 = s9) (hs9 : s9 = 0 ∨ s9 = 3) (hP : P none mem) : jT l 319 149 [some (.ref 388)] [] mem P := by
  refine tl_aload_n rfl rfl ?_
  refine tl_geti (c := 12) (k9 := 57) rfl rfl rfl ?_
  rw [e7]
  refine tl_iconst rfl ?_
  refine tl_icmp_ne (tgt := 243) rfl rfl ⟨by omega, by omega⟩ ⟨by omega, by omega⟩ (fun c1 => ?_) (fun c1 => ?_)
  · skip
    refine tl_aload_n rfl rfl ?_
    refine tl_geti (c := 12) (k9 := 57) rfl rfl rfl ?_
    rw [e7]
    show jT _ _ 247 _ _ _ _
    refine tl_iconst rfl ?_
    refine tl_icmp_ne (tgt := 335) rfl rfl ⟨by omega, by omega⟩ ⟨by omega, by omega⟩ (fun c2 => ?_) (fun c2 => ?_)
    · skip
      refine tl_ret rfl ?_
      -- leaf 0 at 335
      exact hP
    · show jT _ _ 251 _ _ _ _
      exfalso; omega
  · show jT _ _ 157 _ _ _ _
    exfalso; omega
set_option maxRecDepth 20000 in
set_option maxHeartbeats 1000000 in
theorem r_nt_E (l : Launch) (mem : jH) (P : Option Value → jH → Prop) (e7 : mem 388 57 = 2) (hP : jT l 319 243 [some (.ref 388)] [] mem P) : jT l 319 149 [some (.ref 388)] [] mem P := by
  refine tl_aload_n rfl rfl ?_
  refine tl_geti (c := 12) (k9 := 57) rfl rfl rfl ?_
  rw [e7]
  refine tl_iconst rfl ?_
  refine tl_icmp_ne (tgt := 243) rfl rfl ⟨by omega, by omega⟩ ⟨by omega, by omega⟩ (fun c1 => ?_) (fun c1 => ?_)
  · skip
    show jT _ _ 243 _ _ _ _
    -- leaf 0 at 243
    exact hP
  · show jT _ _ 157 _ _ _ _
    exfalso; omega
set_option maxRecDepth 20000 in
set_option maxHeartbeats 1000000 in
theorem r_next (l : Launch) (h : jH) (B : Nat → Int) (N : Nat) (tx : TXR h B N) (p : Nat) (hp : p ≤ N) (h4 : h 388 56 = (p : Int)) : cV l 319 [.ref 388] h (fun h' => TR h' B N (skw B N p) ∧ FRn h h') := by
  have n400 := tx.2.2.1
  have fb := skw_b (B := B) hp
  refine cV.of rfl rfl ?_
  refine tl_aload_n rfl rfl ?_
  refine tl_aload_n rfl rfl ?_
  refine tl_geti (c := 12) (k9 := 56) rfl rfl rfl ?_
  rw [h4]
  refine tl_puti (c := 12) (k9 := 55) rfl rfl rfl rfl ?_
  show jT _ _ 8 _ _ _ _
  -- leaf 0 at 8
  refine r_nt_A l h B N tx _ (skw B N p) (fun m1 hj => ?_) _ p _ (Nat.lt_succ_self _) ⟨hp, rfl, FRn.s (by decide) (by decide), hs_s⟩
  obtain ⟨fr, e3⟩ := hj
  have txm := tx.of fr
  have eN := txm.1
  have bq9 : N ≤ (skw B N p) ∨ ((skw B N p) < N ∧ m1 393 (skw B N p) = B (skw B N p) ∧ 0 ≤ B (skw B N p) ∧ B (skw B N p) ≤ 255) := by
    by_cases c : (skw B N p) < N
    · have t := tx.2.2.2 ((skw B N p)) c
      unfold byt at t
      exact Or.inr ⟨c, txm.2.1 _ c, t.1, t.2⟩
    · exact Or.inl (by omega)
  refine tl_aload_n rfl rfl ?_
  refine tl_aload_n rfl rfl ?_
  refine tl_geti (c := 12) (k9 := 55) rfl rfl rfl ?_
  rw [e3]
  refine tl_puti (c := 12) (k9 := 56) rfl rfl rfl rfl ?_
  refine tl_aload_n rfl rfl ?_
  refine tl_lconst (z := 0) rfl rfl ?_
  show jT _ _ 56 _ _ _ _
  refine tl_putl (c := 12) (k9 := 58) rfl rfl rfl rfl ?_
  refine tl_aload_n rfl rfl ?_
  refine tl_aload_n rfl rfl ?_
  refine tl_geti (c := 12) (k9 := 55) rfl rfl rfl ?_
  rw [hs_k (by decide), hs_k (by decide), e3]
  refine tl_aload_n rfl rfl ?_
  refine tl_geti (c := 12) (k9 := 8) rfl rfl rfl ?_
  rw [hs_k (by decide), hs_k (by decide), eN]
  refine tl_icmp_ne (tgt := 75) rfl rfl ⟨by omega, by omega⟩ ⟨by omega, by omega⟩ (fun c1 => ?_) (fun c1 => ?_)
  · skip
    show jT _ _ 75 _ _ _ _
    refine tl_aload_n rfl rfl ?_
    refine tl_getr (c := 12) (k9 := 7) (b := 393) rfl rfl rfl rfl ?_
    refine tl_aload_n rfl rfl ?_
    refine tl_geti (c := 12) (k9 := 55) rfl rfl rfl ?_
    rw [hs_k (by decide), hs_k (by decide), e3]
    refine tl_iald (n := 400) rfl rfl rfl (by omega) (by omega) ?_
    rw [Int.toNat_natCast, hs_O (by decide), hs_O (by decide), show m1 393 (skw B N p) = B (skw B N p) by omega]
    refine tl_s1i (r_isLetter l _ (B (skw B N p)) (by omega) (by omega)) rfl rfl rfl (Nat.le_of_ble_eq_true rfl) (fun z2 h2 p2 => ?_)
    obtain ⟨q2, rfl⟩ := p2
    have q2 := q2.symm
    subst q2
    have b2 := zb_b (lt9 (B (skw B N p)))
    refine tl_if_eq (tgt := 94) rfl rfl ⟨by omega, by omega⟩ (fun c2 => ?_) (fun c2 => ?_)
    · skip
      have el := zb0 c2
      show jT _ _ 94 _ _ _ _
      refine tl_aload_n rfl rfl ?_
      refine tl_getr (c := 12) (k9 := 7) (b := 393) rfl rfl rfl rfl ?_
      refine tl_aload_n rfl rfl ?_
      refine tl_geti (c := 12) (k9 := 55) rfl rfl rfl ?_
      rw [hs_k (by decide), hs_k (by decide), e3]
      refine tl_iald (n := 400) rfl rfl rfl (by omega) (by omega) ?_
      rw [Int.toNat_natCast, hs_O (by decide), hs_O (by decide), show m1 393 (skw B N p) = B (skw B N p) by omega]
      refine tl_s1i (r_isDig l _ (B (skw B N p)) (by omega) (by omega)) rfl rfl rfl (Nat.le_of_ble_eq_true rfl) (fun z4 h4 p4 => ?_)
      obtain ⟨q4, rfl⟩ := p4
      have q4 := q4.symm
      subst q4
      have b4 := zb_b (dt9 (B (skw B N p)))
      refine tl_if_eq (tgt := 113) rfl rfl ⟨by omega, by omega⟩ (fun c3 => ?_) (fun c3 => ?_)
      · skip
        have ed := zb0 c3
        show jT _ _ 113 _ _ _ _
        refine tl_iconst rfl ?_
        refine tl_puti (c := 12) (k9 := 57) rfl rfl rfl rfl ?_
        refine tl_aload_n rfl rfl ?_
        refine tl_geti (c := 12) (k9 := 57) rfl rfl rfl ?_
        rw [hs_s]
        refine tl_iconst rfl ?_
        refine tl_icmp_ne (tgt := 149) rfl rfl ⟨by omega, by omega⟩ ⟨by omega, by omega⟩ (fun c4 => ?_) (fun c4 => ?_)
        · skip
          show jT _ _ 149 _ _ _ _
          -- leaf 0 at 149
          first
            | (exfalso; omega)
            | (have sv : srt9 B N (skw B N p) = 0 := by rw [srt9, if_pos (by omega)]
               have wv : wo B N (skw B N p) = 0 := by rw [wo, sv]; rfl
               have tv : te B N (skw B N p) = (skw B N p) := by rw [te_s fb.2 (by omega) (by omega), if_neg (by omega)]
               refine r_nt_D l _ _ 0 hs_s (Or.inl rfl) ⟨rfl, ⟨tx.of (((fr.trans (FRn.s (by decide) (by decide))).trans (FRn.s (by decide) (by decide))).trans (FRn.s (by decide) (by decide))), by rw [hs_k (by decide), hs_k (by decide), hs_k (by decide)]; exact e3, by rw [hs_k (by decide), hs_k (by decide), hs_s, tv], by rw [hs_s, sv], by rw [hs_k (by decide), hs_s, wv], fb.2⟩, ((fr.trans (FRn.s (by decide) (by decide))).trans (FRn.s (by decide) (by decide))).trans (FRn.s (by decide) (by decide))⟩)
            | (have sv : srt9 B N (skw B N p) = 1 := by rw [srt9, if_neg (by omega), if_pos el]
               have wv : wo B N (skw B N p) = wL B (skw B N p) (te B N (skw B N p) - (skw B N p)) := by rw [wo, sv]; rfl
               refine r_nt_B l h B N tx (skw B N p) (by omega) sv _ (fun m2 hj => ⟨rfl, ⟨tx.of hj.1, hj.2.1, hj.2.2.2.1, by rw [hj.2.2.1, sv], by rw [hj.2.2.2.2, wv], fb.2⟩, hj.1⟩) _ 0 _ (Nat.lt_succ_self _) ⟨(te_b fb.2).1, (te_l fb.2 sv).1.symm, ((fr.trans (FRn.s (by decide) (by decide))).trans (FRn.s (by decide) (by decide))).trans (FRn.s (by decide) (by decide)), by rw [hs_k (by decide), hs_k (by decide), hs_k (by decide)]; exact e3, hs_s, by rw [hs_k (by decide), hs_k (by decide), hs_s]; rfl, by rw [hs_k (by decide), hs_s]; rfl⟩)
            | (have sv : srt9 B N (skw B N p) = 2 := by rw [srt9, if_neg (by omega), if_neg (by rw [el]; decide), if_pos ed]
               have wv : wo B N (skw B N p) = dF B (skw B N p) (te B N (skw B N p) - (skw B N p)) := by rw [wo, sv]; rfl
               refine r_nt_E l _ _ hs_s (r_nt_C l h B N tx (skw B N p) (by omega) sv _ (fun m2 hj => ⟨rfl, ⟨tx.of hj.1, hj.2.1, hj.2.2.2.1, by rw [hj.2.2.1, sv], by rw [hj.2.2.2.2, wv], fb.2⟩, hj.1⟩) _ 0 _ (Nat.lt_succ_self _) ⟨(te_b fb.2).1, (te_d fb.2 sv).1.symm, ((fr.trans (FRn.s (by decide) (by decide))).trans (FRn.s (by decide) (by decide))).trans (FRn.s (by decide) (by decide)), by rw [hs_k (by decide), hs_k (by decide), hs_k (by decide)]; exact e3, hs_s, by rw [hs_k (by decide), hs_k (by decide), hs_s]; rfl, by rw [hs_k (by decide), hs_s]; rfl⟩))
            | (have sv : srt9 B N (skw B N p) = 3 := by rw [srt9, if_neg (by omega), if_neg (by rw [el]; decide), if_neg (by rw [ed]; decide)]
               have wv : wo B N (skw B N p) = B (skw B N p) := by rw [wo, sv]; rfl
               have tv : te B N (skw B N p) = (skw B N p) + 1 := by rw [te_s fb.2 (by omega) (by omega), if_pos (by omega)]
               refine r_nt_D l _ _ 3 (by rw [hs_k (by decide), hs_k (by decide), hs_s]) (Or.inr rfl) ⟨rfl, ⟨tx.of (((((fr.trans (FRn.s (by decide) (by decide))).trans (FRn.s (by decide) (by decide))).trans (FRn.s (by decide) (by decide))).trans (FRn.s (by decide) (by decide))).trans (FRn.s (by decide) (by decide))), by rw [hs_k (by decide), hs_k (by decide), hs_k (by decide), hs_k (by decide), hs_k (by decide)]; exact e3, by rw [hs_s, tv]; omega, by rw [hs_k (by decide), hs_k (by decide), hs_s, sv], by rw [hs_k (by decide), hs_s, wv], fb.2⟩, ((((fr.trans (FRn.s (by decide) (by decide))).trans (FRn.s (by decide) (by decide))).trans (FRn.s (by decide) (by decide))).trans (FRn.s (by decide) (by decide))).trans (FRn.s (by decide) (by decide))⟩)
        · show jT _ _ 125 _ _ _ _
          refine tl_aload_n rfl rfl ?_
          show jT _ _ 126 _ _ _ _
          refine tl_aload_n rfl rfl ?_
          refine tl_getr (c := 12) (k9 := 7) (b := 393) rfl rfl rfl rfl ?_
          refine tl_aload_n rfl rfl ?_
          refine tl_geti (c := 12) (k9 := 55) rfl rfl rfl ?_
          rw [hs_k (by decide), hs_k (by decide), hs_k (by decide), e3]
          refine tl_iald (n := 400) rfl rfl rfl (by omega) (by omega) ?_
          rw [Int.toNat_natCast, hs_O (by decide), hs_O (by decide), hs_O (by decide), show m1 393 (skw B N p) = B (skw B N p) by omega]
          refine tl_i2l rfl ⟨by omega, by omega⟩ ?_
          refine tl_putl (c := 12) (k9 := 58) rfl rfl rfl rfl ?_
          show jT _ _ 139 _ _ _ _
          refine tl_aload_n rfl rfl ?_
          refine tl_dup rfl rfl ?_
          refine tl_geti (c := 12) (k9 := 56) rfl rfl rfl ?_
          rw [hs_k (by decide), hs_k (by decide), hs_k (by decide), hs_s]
          refine tl_iconst rfl ?_
          refine tl_iadd rfl ?_
          refine tl_puti (c := 12) (k9 := 56) rfl rfl rfl rfl ?_
          show jT _ _ 149 _ _ _ _
          -- leaf 1 at 149
          first
            | (exfalso; omega)
            | (have sv : srt9 B N (skw B N p) = 0 := by rw [srt9, if_pos (by omega)]
               have wv : wo B N (skw B N p) = 0 := by rw [wo, sv]; rfl
               have tv : te B N (skw B N p) = (skw B N p) := by rw [te_s fb.2 (by omega) (by omega), if_neg (by omega)]
               refine r_nt_D l _ _ 0 hs_s (Or.inl rfl) ⟨rfl, ⟨tx.of (((fr.trans (FRn.s (by decide) (by decide))).trans (FRn.s (by decide) (by decide))).trans (FRn.s (by decide) (by decide))), by rw [hs_k (by decide), hs_k (by decide), hs_k (by decide)]; exact e3, by rw [hs_k (by decide), hs_k (by decide), hs_s, tv], by rw [hs_s, sv], by rw [hs_k (by decide), hs_s, wv], fb.2⟩, ((fr.trans (FRn.s (by decide) (by decide))).trans (FRn.s (by decide) (by decide))).trans (FRn.s (by decide) (by decide))⟩)
            | (have sv : srt9 B N (skw B N p) = 1 := by rw [srt9, if_neg (by omega), if_pos el]
               have wv : wo B N (skw B N p) = wL B (skw B N p) (te B N (skw B N p) - (skw B N p)) := by rw [wo, sv]; rfl
               refine r_nt_B l h B N tx (skw B N p) (by omega) sv _ (fun m2 hj => ⟨rfl, ⟨tx.of hj.1, hj.2.1, hj.2.2.2.1, by rw [hj.2.2.1, sv], by rw [hj.2.2.2.2, wv], fb.2⟩, hj.1⟩) _ 0 _ (Nat.lt_succ_self _) ⟨(te_b fb.2).1, (te_l fb.2 sv).1.symm, ((fr.trans (FRn.s (by decide) (by decide))).trans (FRn.s (by decide) (by decide))).trans (FRn.s (by decide) (by decide)), by rw [hs_k (by decide), hs_k (by decide), hs_k (by decide)]; exact e3, hs_s, by rw [hs_k (by decide), hs_k (by decide), hs_s]; rfl, by rw [hs_k (by decide), hs_s]; rfl⟩)
            | (have sv : srt9 B N (skw B N p) = 2 := by rw [srt9, if_neg (by omega), if_neg (by rw [el]; decide), if_pos ed]
               have wv : wo B N (skw B N p) = dF B (skw B N p) (te B N (skw B N p) - (skw B N p)) := by rw [wo, sv]; rfl
               refine r_nt_E l _ _ hs_s (r_nt_C l h B N tx (skw B N p) (by omega) sv _ (fun m2 hj => ⟨rfl, ⟨tx.of hj.1, hj.2.1, hj.2.2.2.1, by rw [hj.2.2.1, sv], by rw [hj.2.2.2.2, wv], fb.2⟩, hj.1⟩) _ 0 _ (Nat.lt_succ_self _) ⟨(te_b fb.2).1, (te_d fb.2 sv).1.symm, ((fr.trans (FRn.s (by decide) (by decide))).trans (FRn.s (by decide) (by decide))).trans (FRn.s (by decide) (by decide)), by rw [hs_k (by decide), hs_k (by decide), hs_k (by decide)]; exact e3, hs_s, by rw [hs_k (by decide), hs_k (by decide), hs_s]; rfl, by rw [hs_k (by decide), hs_s]; rfl⟩))
            | (have sv : srt9 B N (skw B N p) = 3 := by rw [srt9, if_neg (by omega), if_neg (by rw [el]; decide), if_neg (by rw [ed]; decide)]
               have wv : wo B N (skw B N p) = B (skw B N p) := by rw [wo, sv]; rfl
               have tv : te B N (skw B N p) = (skw B N p) + 1 := by rw [te_s fb.2 (by omega) (by omega), if_pos (by omega)]
               refine r_nt_D l _ _ 3 (by rw [hs_k (by decide), hs_k (by decide), hs_s]) (Or.inr rfl) ⟨rfl, ⟨tx.of (((((fr.trans (FRn.s (by decide) (by decide))).trans (FRn.s (by decide) (by decide))).trans (FRn.s (by decide) (by decide))).trans (FRn.s (by decide) (by decide))).trans (FRn.s (by decide) (by decide))), by rw [hs_k (by decide), hs_k (by decide), hs_k (by decide), hs_k (by decide), hs_k (by decide)]; exact e3, by rw [hs_s, tv]; omega, by rw [hs_k (by decide), hs_k (by decide), hs_s, sv], by rw [hs_k (by decide), hs_s, wv], fb.2⟩, ((((fr.trans (FRn.s (by decide) (by decide))).trans (FRn.s (by decide) (by decide))).trans (FRn.s (by decide) (by decide))).trans (FRn.s (by decide) (by decide))).trans (FRn.s (by decide) (by decide))⟩)
      · show jT _ _ 109 _ _ _ _
        have ed := zb1' c3
        refine tl_iconst rfl ?_
        show jT _ _ 110 _ _ _ _
        refine tl_goto (tgt := 114) rfl rfl ?_
        refine tl_puti (c := 12) (k9 := 57) rfl rfl rfl rfl ?_
        refine tl_aload_n rfl rfl ?_
        refine tl_geti (c := 12) (k9 := 57) rfl rfl rfl ?_
        rw [hs_s]
        refine tl_iconst rfl ?_
        refine tl_icmp_ne (tgt := 149) rfl rfl ⟨by omega, by omega⟩ ⟨by omega, by omega⟩ (fun c5 => ?_) (fun c5 => ?_)
        · skip
          show jT _ _ 149 _ _ _ _
          -- leaf 2 at 149
          first
            | (exfalso; omega)
            | (have sv : srt9 B N (skw B N p) = 0 := by rw [srt9, if_pos (by omega)]
               have wv : wo B N (skw B N p) = 0 := by rw [wo, sv]; rfl
               have tv : te B N (skw B N p) = (skw B N p) := by rw [te_s fb.2 (by omega) (by omega), if_neg (by omega)]
               refine r_nt_D l _ _ 0 hs_s (Or.inl rfl) ⟨rfl, ⟨tx.of (((fr.trans (FRn.s (by decide) (by decide))).trans (FRn.s (by decide) (by decide))).trans (FRn.s (by decide) (by decide))), by rw [hs_k (by decide), hs_k (by decide), hs_k (by decide)]; exact e3, by rw [hs_k (by decide), hs_k (by decide), hs_s, tv], by rw [hs_s, sv], by rw [hs_k (by decide), hs_s, wv], fb.2⟩, ((fr.trans (FRn.s (by decide) (by decide))).trans (FRn.s (by decide) (by decide))).trans (FRn.s (by decide) (by decide))⟩)
            | (have sv : srt9 B N (skw B N p) = 1 := by rw [srt9, if_neg (by omega), if_pos el]
               have wv : wo B N (skw B N p) = wL B (skw B N p) (te B N (skw B N p) - (skw B N p)) := by rw [wo, sv]; rfl
               refine r_nt_B l h B N tx (skw B N p) (by omega) sv _ (fun m2 hj => ⟨rfl, ⟨tx.of hj.1, hj.2.1, hj.2.2.2.1, by rw [hj.2.2.1, sv], by rw [hj.2.2.2.2, wv], fb.2⟩, hj.1⟩) _ 0 _ (Nat.lt_succ_self _) ⟨(te_b fb.2).1, (te_l fb.2 sv).1.symm, ((fr.trans (FRn.s (by decide) (by decide))).trans (FRn.s (by decide) (by decide))).trans (FRn.s (by decide) (by decide)), by rw [hs_k (by decide), hs_k (by decide), hs_k (by decide)]; exact e3, hs_s, by rw [hs_k (by decide), hs_k (by decide), hs_s]; rfl, by rw [hs_k (by decide), hs_s]; rfl⟩)
            | (have sv : srt9 B N (skw B N p) = 2 := by rw [srt9, if_neg (by omega), if_neg (by rw [el]; decide), if_pos ed]
               have wv : wo B N (skw B N p) = dF B (skw B N p) (te B N (skw B N p) - (skw B N p)) := by rw [wo, sv]; rfl
               refine r_nt_E l _ _ hs_s (r_nt_C l h B N tx (skw B N p) (by omega) sv _ (fun m2 hj => ⟨rfl, ⟨tx.of hj.1, hj.2.1, hj.2.2.2.1, by rw [hj.2.2.1, sv], by rw [hj.2.2.2.2, wv], fb.2⟩, hj.1⟩) _ 0 _ (Nat.lt_succ_self _) ⟨(te_b fb.2).1, (te_d fb.2 sv).1.symm, ((fr.trans (FRn.s (by decide) (by decide))).trans (FRn.s (by decide) (by decide))).trans (FRn.s (by decide) (by decide)), by rw [hs_k (by decide), hs_k (by decide), hs_k (by decide)]; exact e3, hs_s, by rw [hs_k (by decide), hs_k (by decide), hs_s]; rfl, by rw [hs_k (by decide), hs_s]; rfl⟩))
            | (have sv : srt9 B N (skw B N p) = 3 := by rw [srt9, if_neg (by omega), if_neg (by rw [el]; decide), if_neg (by rw [ed]; decide)]
               have wv : wo B N (skw B N p) = B (skw B N p) := by rw [wo, sv]; rfl
               have tv : te B N (skw B N p) = (skw B N p) + 1 := by rw [te_s fb.2 (by omega) (by omega), if_pos (by omega)]
               refine r_nt_D l _ _ 3 (by rw [hs_k (by decide), hs_k (by decide), hs_s]) (Or.inr rfl) ⟨rfl, ⟨tx.of (((((fr.trans (FRn.s (by decide) (by decide))).trans (FRn.s (by decide) (by decide))).trans (FRn.s (by decide) (by decide))).trans (FRn.s (by decide) (by decide))).trans (FRn.s (by decide) (by decide))), by rw [hs_k (by decide), hs_k (by decide), hs_k (by decide), hs_k (by decide), hs_k (by decide)]; exact e3, by rw [hs_s, tv]; omega, by rw [hs_k (by decide), hs_k (by decide), hs_s, sv], by rw [hs_k (by decide), hs_s, wv], fb.2⟩, ((((fr.trans (FRn.s (by decide) (by decide))).trans (FRn.s (by decide) (by decide))).trans (FRn.s (by decide) (by decide))).trans (FRn.s (by decide) (by decide))).trans (FRn.s (by decide) (by decide))⟩)
        · show jT _ _ 125 _ _ _ _
          refine tl_aload_n rfl rfl ?_
          show jT _ _ 126 _ _ _ _
          refine tl_aload_n rfl rfl ?_
          refine tl_getr (c := 12) (k9 := 7) (b := 393) rfl rfl rfl rfl ?_
          refine tl_aload_n rfl rfl ?_
          refine tl_geti (c := 12) (k9 := 55) rfl rfl rfl ?_
          rw [hs_k (by decide), hs_k (by decide), hs_k (by decide), e3]
          refine tl_iald (n := 400) rfl rfl rfl (by omega) (by omega) ?_
          rw [Int.toNat_natCast, hs_O (by decide), hs_O (by decide), hs_O (by decide), show m1 393 (skw B N p) = B (skw B N p) by omega]
          refine tl_i2l rfl ⟨by omega, by omega⟩ ?_
          refine tl_putl (c := 12) (k9 := 58) rfl rfl rfl rfl ?_
          show jT _ _ 139 _ _ _ _
          refine tl_aload_n rfl rfl ?_
          refine tl_dup rfl rfl ?_
          refine tl_geti (c := 12) (k9 := 56) rfl rfl rfl ?_
          rw [hs_k (by decide), hs_k (by decide), hs_k (by decide), hs_s]
          refine tl_iconst rfl ?_
          refine tl_iadd rfl ?_
          refine tl_puti (c := 12) (k9 := 56) rfl rfl rfl rfl ?_
          show jT _ _ 149 _ _ _ _
          -- leaf 3 at 149
          first
            | (exfalso; omega)
            | (have sv : srt9 B N (skw B N p) = 0 := by rw [srt9, if_pos (by omega)]
               have wv : wo B N (skw B N p) = 0 := by rw [wo, sv]; rfl
               have tv : te B N (skw B N p) = (skw B N p) := by rw [te_s fb.2 (by omega) (by omega), if_neg (by omega)]
               refine r_nt_D l _ _ 0 hs_s (Or.inl rfl) ⟨rfl, ⟨tx.of (((fr.trans (FRn.s (by decide) (by decide))).trans (FRn.s (by decide) (by decide))).trans (FRn.s (by decide) (by decide))), by rw [hs_k (by decide), hs_k (by decide), hs_k (by decide)]; exact e3, by rw [hs_k (by decide), hs_k (by decide), hs_s, tv], by rw [hs_s, sv], by rw [hs_k (by decide), hs_s, wv], fb.2⟩, ((fr.trans (FRn.s (by decide) (by decide))).trans (FRn.s (by decide) (by decide))).trans (FRn.s (by decide) (by decide))⟩)
            | (have sv : srt9 B N (skw B N p) = 1 := by rw [srt9, if_neg (by omega), if_pos el]
               have wv : wo B N (skw B N p) = wL B (skw B N p) (te B N (skw B N p) - (skw B N p)) := by rw [wo, sv]; rfl
               refine r_nt_B l h B N tx (skw B N p) (by omega) sv _ (fun m2 hj => ⟨rfl, ⟨tx.of hj.1, hj.2.1, hj.2.2.2.1, by rw [hj.2.2.1, sv], by rw [hj.2.2.2.2, wv], fb.2⟩, hj.1⟩) _ 0 _ (Nat.lt_succ_self _) ⟨(te_b fb.2).1, (te_l fb.2 sv).1.symm, ((fr.trans (FRn.s (by decide) (by decide))).trans (FRn.s (by decide) (by decide))).trans (FRn.s (by decide) (by decide)), by rw [hs_k (by decide), hs_k (by decide), hs_k (by decide)]; exact e3, hs_s, by rw [hs_k (by decide), hs_k (by decide), hs_s]; rfl, by rw [hs_k (by decide), hs_s]; rfl⟩)
            | (have sv : srt9 B N (skw B N p) = 2 := by rw [srt9, if_neg (by omega), if_neg (by rw [el]; decide), if_pos ed]
               have wv : wo B N (skw B N p) = dF B (skw B N p) (te B N (skw B N p) - (skw B N p)) := by rw [wo, sv]; rfl
               refine r_nt_E l _ _ hs_s (r_nt_C l h B N tx (skw B N p) (by omega) sv _ (fun m2 hj => ⟨rfl, ⟨tx.of hj.1, hj.2.1, hj.2.2.2.1, by rw [hj.2.2.1, sv], by rw [hj.2.2.2.2, wv], fb.2⟩, hj.1⟩) _ 0 _ (Nat.lt_succ_self _) ⟨(te_b fb.2).1, (te_d fb.2 sv).1.symm, ((fr.trans (FRn.s (by decide) (by decide))).trans (FRn.s (by decide) (by decide))).trans (FRn.s (by decide) (by decide)), by rw [hs_k (by decide), hs_k (by decide), hs_k (by decide)]; exact e3, hs_s, by rw [hs_k (by decide), hs_k (by decide), hs_s]; rfl, by rw [hs_k (by decide), hs_s]; rfl⟩))
            | (have sv : srt9 B N (skw B N p) = 3 := by rw [srt9, if_neg (by omega), if_neg (by rw [el]; decide), if_neg (by rw [ed]; decide)]
               have wv : wo B N (skw B N p) = B (skw B N p) := by rw [wo, sv]; rfl
               have tv : te B N (skw B N p) = (skw B N p) + 1 := by rw [te_s fb.2 (by omega) (by omega), if_pos (by omega)]
               refine r_nt_D l _ _ 3 (by rw [hs_k (by decide), hs_k (by decide), hs_s]) (Or.inr rfl) ⟨rfl, ⟨tx.of (((((fr.trans (FRn.s (by decide) (by decide))).trans (FRn.s (by decide) (by decide))).trans (FRn.s (by decide) (by decide))).trans (FRn.s (by decide) (by decide))).trans (FRn.s (by decide) (by decide))), by rw [hs_k (by decide), hs_k (by decide), hs_k (by decide), hs_k (by decide), hs_k (by decide)]; exact e3, by rw [hs_s, tv]; omega, by rw [hs_k (by decide), hs_k (by decide), hs_s, sv], by rw [hs_k (by decide), hs_s, wv], fb.2⟩, ((((fr.trans (FRn.s (by decide) (by decide))).trans (FRn.s (by decide) (by decide))).trans (FRn.s (by decide) (by decide))).trans (FRn.s (by decide) (by decide))).trans (FRn.s (by decide) (by decide))⟩)
    · show jT _ _ 90 _ _ _ _
      have el := zb1' c2
      refine tl_iconst rfl ?_
      show jT _ _ 91 _ _ _ _
      refine tl_goto (tgt := 114) rfl rfl ?_
      refine tl_puti (c := 12) (k9 := 57) rfl rfl rfl rfl ?_
      refine tl_aload_n rfl rfl ?_
      refine tl_geti (c := 12) (k9 := 57) rfl rfl rfl ?_
      rw [hs_s]
      refine tl_iconst rfl ?_
      refine tl_icmp_ne (tgt := 149) rfl rfl ⟨by omega, by omega⟩ ⟨by omega, by omega⟩ (fun c6 => ?_) (fun c6 => ?_)
      · skip
        show jT _ _ 149 _ _ _ _
        -- leaf 4 at 149
        first
          | (exfalso; omega)
          | (have sv : srt9 B N (skw B N p) = 0 := by rw [srt9, if_pos (by omega)]
             have wv : wo B N (skw B N p) = 0 := by rw [wo, sv]; rfl
             have tv : te B N (skw B N p) = (skw B N p) := by rw [te_s fb.2 (by omega) (by omega), if_neg (by omega)]
             refine r_nt_D l _ _ 0 hs_s (Or.inl rfl) ⟨rfl, ⟨tx.of (((fr.trans (FRn.s (by decide) (by decide))).trans (FRn.s (by decide) (by decide))).trans (FRn.s (by decide) (by decide))), by rw [hs_k (by decide), hs_k (by decide), hs_k (by decide)]; exact e3, by rw [hs_k (by decide), hs_k (by decide), hs_s, tv], by rw [hs_s, sv], by rw [hs_k (by decide), hs_s, wv], fb.2⟩, ((fr.trans (FRn.s (by decide) (by decide))).trans (FRn.s (by decide) (by decide))).trans (FRn.s (by decide) (by decide))⟩)
          | (have sv : srt9 B N (skw B N p) = 1 := by rw [srt9, if_neg (by omega), if_pos el]
             have wv : wo B N (skw B N p) = wL B (skw B N p) (te B N (skw B N p) - (skw B N p)) := by rw [wo, sv]; rfl
             refine r_nt_B l h B N tx (skw B N p) (by omega) sv _ (fun m2 hj => ⟨rfl, ⟨tx.of hj.1, hj.2.1, hj.2.2.2.1, by rw [hj.2.2.1, sv], by rw [hj.2.2.2.2, wv], fb.2⟩, hj.1⟩) _ 0 _ (Nat.lt_succ_self _) ⟨(te_b fb.2).1, (te_l fb.2 sv).1.symm, ((fr.trans (FRn.s (by decide) (by decide))).trans (FRn.s (by decide) (by decide))).trans (FRn.s (by decide) (by decide)), by rw [hs_k (by decide), hs_k (by decide), hs_k (by decide)]; exact e3, hs_s, by rw [hs_k (by decide), hs_k (by decide), hs_s]; rfl, by rw [hs_k (by decide), hs_s]; rfl⟩)
          | (have sv : srt9 B N (skw B N p) = 2 := by rw [srt9, if_neg (by omega), if_neg (by rw [el]; decide), if_pos ed]
             have wv : wo B N (skw B N p) = dF B (skw B N p) (te B N (skw B N p) - (skw B N p)) := by rw [wo, sv]; rfl
             refine r_nt_E l _ _ hs_s (r_nt_C l h B N tx (skw B N p) (by omega) sv _ (fun m2 hj => ⟨rfl, ⟨tx.of hj.1, hj.2.1, hj.2.2.2.1, by rw [hj.2.2.1, sv], by rw [hj.2.2.2.2, wv], fb.2⟩, hj.1⟩) _ 0 _ (Nat.lt_succ_self _) ⟨(te_b fb.2).1, (te_d fb.2 sv).1.symm, ((fr.trans (FRn.s (by decide) (by decide))).trans (FRn.s (by decide) (by decide))).trans (FRn.s (by decide) (by decide)), by rw [hs_k (by decide), hs_k (by decide), hs_k (by decide)]; exact e3, hs_s, by rw [hs_k (by decide), hs_k (by decide), hs_s]; rfl, by rw [hs_k (by decide), hs_s]; rfl⟩))
          | (have sv : srt9 B N (skw B N p) = 3 := by rw [srt9, if_neg (by omega), if_neg (by rw [el]; decide), if_neg (by rw [ed]; decide)]
             have wv : wo B N (skw B N p) = B (skw B N p) := by rw [wo, sv]; rfl
             have tv : te B N (skw B N p) = (skw B N p) + 1 := by rw [te_s fb.2 (by omega) (by omega), if_pos (by omega)]
             refine r_nt_D l _ _ 3 (by rw [hs_k (by decide), hs_k (by decide), hs_s]) (Or.inr rfl) ⟨rfl, ⟨tx.of (((((fr.trans (FRn.s (by decide) (by decide))).trans (FRn.s (by decide) (by decide))).trans (FRn.s (by decide) (by decide))).trans (FRn.s (by decide) (by decide))).trans (FRn.s (by decide) (by decide))), by rw [hs_k (by decide), hs_k (by decide), hs_k (by decide), hs_k (by decide), hs_k (by decide)]; exact e3, by rw [hs_s, tv]; omega, by rw [hs_k (by decide), hs_k (by decide), hs_s, sv], by rw [hs_k (by decide), hs_s, wv], fb.2⟩, ((((fr.trans (FRn.s (by decide) (by decide))).trans (FRn.s (by decide) (by decide))).trans (FRn.s (by decide) (by decide))).trans (FRn.s (by decide) (by decide))).trans (FRn.s (by decide) (by decide))⟩)
      · show jT _ _ 125 _ _ _ _
        refine tl_aload_n rfl rfl ?_
        show jT _ _ 126 _ _ _ _
        refine tl_aload_n rfl rfl ?_
        refine tl_getr (c := 12) (k9 := 7) (b := 393) rfl rfl rfl rfl ?_
        refine tl_aload_n rfl rfl ?_
        refine tl_geti (c := 12) (k9 := 55) rfl rfl rfl ?_
        rw [hs_k (by decide), hs_k (by decide), hs_k (by decide), e3]
        refine tl_iald (n := 400) rfl rfl rfl (by omega) (by omega) ?_
        rw [Int.toNat_natCast, hs_O (by decide), hs_O (by decide), hs_O (by decide), show m1 393 (skw B N p) = B (skw B N p) by omega]
        refine tl_i2l rfl ⟨by omega, by omega⟩ ?_
        refine tl_putl (c := 12) (k9 := 58) rfl rfl rfl rfl ?_
        show jT _ _ 139 _ _ _ _
        refine tl_aload_n rfl rfl ?_
        refine tl_dup rfl rfl ?_
        refine tl_geti (c := 12) (k9 := 56) rfl rfl rfl ?_
        rw [hs_k (by decide), hs_k (by decide), hs_k (by decide), hs_s]
        refine tl_iconst rfl ?_
        refine tl_iadd rfl ?_
        refine tl_puti (c := 12) (k9 := 56) rfl rfl rfl rfl ?_
        show jT _ _ 149 _ _ _ _
        -- leaf 5 at 149
        first
          | (exfalso; omega)
          | (have sv : srt9 B N (skw B N p) = 0 := by rw [srt9, if_pos (by omega)]
             have wv : wo B N (skw B N p) = 0 := by rw [wo, sv]; rfl
             have tv : te B N (skw B N p) = (skw B N p) := by rw [te_s fb.2 (by omega) (by omega), if_neg (by omega)]
             refine r_nt_D l _ _ 0 hs_s (Or.inl rfl) ⟨rfl, ⟨tx.of (((fr.trans (FRn.s (by decide) (by decide))).trans (FRn.s (by decide) (by decide))).trans (FRn.s (by decide) (by decide))), by rw [hs_k (by decide), hs_k (by decide), hs_k (by decide)]; exact e3, by rw [hs_k (by decide), hs_k (by decide), hs_s, tv], by rw [hs_s, sv], by rw [hs_k (by decide), hs_s, wv], fb.2⟩, ((fr.trans (FRn.s (by decide) (by decide))).trans (FRn.s (by decide) (by decide))).trans (FRn.s (by decide) (by decide))⟩)
          | (have sv : srt9 B N (skw B N p) = 1 := by rw [srt9, if_neg (by omega), if_pos el]
             have wv : wo B N (skw B N p) = wL B (skw B N p) (te B N (skw B N p) - (skw B N p)) := by rw [wo, sv]; rfl
             refine r_nt_B l h B N tx (skw B N p) (by omega) sv _ (fun m2 hj => ⟨rfl, ⟨tx.of hj.1, hj.2.1, hj.2.2.2.1, by rw [hj.2.2.1, sv], by rw [hj.2.2.2.2, wv], fb.2⟩, hj.1⟩) _ 0 _ (Nat.lt_succ_self _) ⟨(te_b fb.2).1, (te_l fb.2 sv).1.symm, ((fr.trans (FRn.s (by decide) (by decide))).trans (FRn.s (by decide) (by decide))).trans (FRn.s (by decide) (by decide)), by rw [hs_k (by decide), hs_k (by decide), hs_k (by decide)]; exact e3, hs_s, by rw [hs_k (by decide), hs_k (by decide), hs_s]; rfl, by rw [hs_k (by decide), hs_s]; rfl⟩)
          | (have sv : srt9 B N (skw B N p) = 2 := by rw [srt9, if_neg (by omega), if_neg (by rw [el]; decide), if_pos ed]
             have wv : wo B N (skw B N p) = dF B (skw B N p) (te B N (skw B N p) - (skw B N p)) := by rw [wo, sv]; rfl
             refine r_nt_E l _ _ hs_s (r_nt_C l h B N tx (skw B N p) (by omega) sv _ (fun m2 hj => ⟨rfl, ⟨tx.of hj.1, hj.2.1, hj.2.2.2.1, by rw [hj.2.2.1, sv], by rw [hj.2.2.2.2, wv], fb.2⟩, hj.1⟩) _ 0 _ (Nat.lt_succ_self _) ⟨(te_b fb.2).1, (te_d fb.2 sv).1.symm, ((fr.trans (FRn.s (by decide) (by decide))).trans (FRn.s (by decide) (by decide))).trans (FRn.s (by decide) (by decide)), by rw [hs_k (by decide), hs_k (by decide), hs_k (by decide)]; exact e3, hs_s, by rw [hs_k (by decide), hs_k (by decide), hs_s]; rfl, by rw [hs_k (by decide), hs_s]; rfl⟩))
          | (have sv : srt9 B N (skw B N p) = 3 := by rw [srt9, if_neg (by omega), if_neg (by rw [el]; decide), if_neg (by rw [ed]; decide)]
             have wv : wo B N (skw B N p) = B (skw B N p) := by rw [wo, sv]; rfl
             have tv : te B N (skw B N p) = (skw B N p) + 1 := by rw [te_s fb.2 (by omega) (by omega), if_pos (by omega)]
             refine r_nt_D l _ _ 3 (by rw [hs_k (by decide), hs_k (by decide), hs_s]) (Or.inr rfl) ⟨rfl, ⟨tx.of (((((fr.trans (FRn.s (by decide) (by decide))).trans (FRn.s (by decide) (by decide))).trans (FRn.s (by decide) (by decide))).trans (FRn.s (by decide) (by decide))).trans (FRn.s (by decide) (by decide))), by rw [hs_k (by decide), hs_k (by decide), hs_k (by decide), hs_k (by decide), hs_k (by decide)]; exact e3, by rw [hs_s, tv]; omega, by rw [hs_k (by decide), hs_k (by decide), hs_s, sv], by rw [hs_k (by decide), hs_s, wv], fb.2⟩, ((((fr.trans (FRn.s (by decide) (by decide))).trans (FRn.s (by decide) (by decide))).trans (FRn.s (by decide) (by decide))).trans (FRn.s (by decide) (by decide))).trans (FRn.s (by decide) (by decide))⟩)
  · show jT _ _ 71 _ _ _ _
    refine tl_iconst rfl ?_
    show jT _ _ 72 _ _ _ _
    refine tl_goto (tgt := 114) rfl rfl ?_
    refine tl_puti (c := 12) (k9 := 57) rfl rfl rfl rfl ?_
    refine tl_aload_n rfl rfl ?_
    refine tl_geti (c := 12) (k9 := 57) rfl rfl rfl ?_
    rw [hs_s]
    refine tl_iconst rfl ?_
    refine tl_icmp_ne (tgt := 149) rfl rfl ⟨by omega, by omega⟩ ⟨by omega, by omega⟩ (fun c7 => ?_) (fun c7 => ?_)
    · skip
      show jT _ _ 149 _ _ _ _
      -- leaf 6 at 149
      first
        | (exfalso; omega)
        | (have sv : srt9 B N (skw B N p) = 0 := by rw [srt9, if_pos (by omega)]
           have wv : wo B N (skw B N p) = 0 := by rw [wo, sv]; rfl
           have tv : te B N (skw B N p) = (skw B N p) := by rw [te_s fb.2 (by omega) (by omega), if_neg (by omega)]
           refine r_nt_D l _ _ 0 hs_s (Or.inl rfl) ⟨rfl, ⟨tx.of (((fr.trans (FRn.s (by decide) (by decide))).trans (FRn.s (by decide) (by decide))).trans (FRn.s (by decide) (by decide))), by rw [hs_k (by decide), hs_k (by decide), hs_k (by decide)]; exact e3, by rw [hs_k (by decide), hs_k (by decide), hs_s, tv], by rw [hs_s, sv], by rw [hs_k (by decide), hs_s, wv], fb.2⟩, ((fr.trans (FRn.s (by decide) (by decide))).trans (FRn.s (by decide) (by decide))).trans (FRn.s (by decide) (by decide))⟩)
        | (have sv : srt9 B N (skw B N p) = 1 := by rw [srt9, if_neg (by omega), if_pos el]
           have wv : wo B N (skw B N p) = wL B (skw B N p) (te B N (skw B N p) - (skw B N p)) := by rw [wo, sv]; rfl
           refine r_nt_B l h B N tx (skw B N p) (by omega) sv _ (fun m2 hj => ⟨rfl, ⟨tx.of hj.1, hj.2.1, hj.2.2.2.1, by rw [hj.2.2.1, sv], by rw [hj.2.2.2.2, wv], fb.2⟩, hj.1⟩) _ 0 _ (Nat.lt_succ_self _) ⟨(te_b fb.2).1, (te_l fb.2 sv).1.symm, ((fr.trans (FRn.s (by decide) (by decide))).trans (FRn.s (by decide) (by decide))).trans (FRn.s (by decide) (by decide)), by rw [hs_k (by decide), hs_k (by decide), hs_k (by decide)]; exact e3, hs_s, by rw [hs_k (by decide), hs_k (by decide), hs_s]; rfl, by rw [hs_k (by decide), hs_s]; rfl⟩)
        | (have sv : srt9 B N (skw B N p) = 2 := by rw [srt9, if_neg (by omega), if_neg (by rw [el]; decide), if_pos ed]
           have wv : wo B N (skw B N p) = dF B (skw B N p) (te B N (skw B N p) - (skw B N p)) := by rw [wo, sv]; rfl
           refine r_nt_E l _ _ hs_s (r_nt_C l h B N tx (skw B N p) (by omega) sv _ (fun m2 hj => ⟨rfl, ⟨tx.of hj.1, hj.2.1, hj.2.2.2.1, by rw [hj.2.2.1, sv], by rw [hj.2.2.2.2, wv], fb.2⟩, hj.1⟩) _ 0 _ (Nat.lt_succ_self _) ⟨(te_b fb.2).1, (te_d fb.2 sv).1.symm, ((fr.trans (FRn.s (by decide) (by decide))).trans (FRn.s (by decide) (by decide))).trans (FRn.s (by decide) (by decide)), by rw [hs_k (by decide), hs_k (by decide), hs_k (by decide)]; exact e3, hs_s, by rw [hs_k (by decide), hs_k (by decide), hs_s]; rfl, by rw [hs_k (by decide), hs_s]; rfl⟩))
        | (have sv : srt9 B N (skw B N p) = 3 := by rw [srt9, if_neg (by omega), if_neg (by rw [el]; decide), if_neg (by rw [ed]; decide)]
           have wv : wo B N (skw B N p) = B (skw B N p) := by rw [wo, sv]; rfl
           have tv : te B N (skw B N p) = (skw B N p) + 1 := by rw [te_s fb.2 (by omega) (by omega), if_pos (by omega)]
           refine r_nt_D l _ _ 3 (by rw [hs_k (by decide), hs_k (by decide), hs_s]) (Or.inr rfl) ⟨rfl, ⟨tx.of (((((fr.trans (FRn.s (by decide) (by decide))).trans (FRn.s (by decide) (by decide))).trans (FRn.s (by decide) (by decide))).trans (FRn.s (by decide) (by decide))).trans (FRn.s (by decide) (by decide))), by rw [hs_k (by decide), hs_k (by decide), hs_k (by decide), hs_k (by decide), hs_k (by decide)]; exact e3, by rw [hs_s, tv]; omega, by rw [hs_k (by decide), hs_k (by decide), hs_s, sv], by rw [hs_k (by decide), hs_s, wv], fb.2⟩, ((((fr.trans (FRn.s (by decide) (by decide))).trans (FRn.s (by decide) (by decide))).trans (FRn.s (by decide) (by decide))).trans (FRn.s (by decide) (by decide))).trans (FRn.s (by decide) (by decide))⟩)
    · show jT _ _ 125 _ _ _ _
      refine tl_aload_n rfl rfl ?_
      show jT _ _ 126 _ _ _ _
      refine tl_aload_n rfl rfl ?_
      refine tl_getr (c := 12) (k9 := 7) (b := 393) rfl rfl rfl rfl ?_
      refine tl_aload_n rfl rfl ?_
      refine tl_geti (c := 12) (k9 := 55) rfl rfl rfl ?_
      rw [hs_k (by decide), hs_k (by decide), hs_k (by decide), e3]
      refine tl_iald (n := 400) rfl rfl rfl (by omega) (by omega) ?_
      rw [Int.toNat_natCast, hs_O (by decide), hs_O (by decide), hs_O (by decide), show m1 393 (skw B N p) = B (skw B N p) by omega]
      refine tl_i2l rfl ⟨by omega, by omega⟩ ?_
      refine tl_putl (c := 12) (k9 := 58) rfl rfl rfl rfl ?_
      show jT _ _ 139 _ _ _ _
      refine tl_aload_n rfl rfl ?_
      refine tl_dup rfl rfl ?_
      refine tl_geti (c := 12) (k9 := 56) rfl rfl rfl ?_
      rw [hs_k (by decide), hs_k (by decide), hs_k (by decide), hs_s]
      refine tl_iconst rfl ?_
      refine tl_iadd rfl ?_
      refine tl_puti (c := 12) (k9 := 56) rfl rfl rfl rfl ?_
      show jT _ _ 149 _ _ _ _
      -- leaf 7 at 149
      first
        | (exfalso; omega)
        | (have sv : srt9 B N (skw B N p) = 0 := by rw [srt9, if_pos (by omega)]
           have wv : wo B N (skw B N p) = 0 := by rw [wo, sv]; rfl
           have tv : te B N (skw B N p) = (skw B N p) := by rw [te_s fb.2 (by omega) (by omega), if_neg (by omega)]
           refine r_nt_D l _ _ 0 hs_s (Or.inl rfl) ⟨rfl, ⟨tx.of (((fr.trans (FRn.s (by decide) (by decide))).trans (FRn.s (by decide) (by decide))).trans (FRn.s (by decide) (by decide))), by rw [hs_k (by decide), hs_k (by decide), hs_k (by decide)]; exact e3, by rw [hs_k (by decide), hs_k (by decide), hs_s, tv], by rw [hs_s, sv], by rw [hs_k (by decide), hs_s, wv], fb.2⟩, ((fr.trans (FRn.s (by decide) (by decide))).trans (FRn.s (by decide) (by decide))).trans (FRn.s (by decide) (by decide))⟩)
        | (have sv : srt9 B N (skw B N p) = 1 := by rw [srt9, if_neg (by omega), if_pos el]
           have wv : wo B N (skw B N p) = wL B (skw B N p) (te B N (skw B N p) - (skw B N p)) := by rw [wo, sv]; rfl
           refine r_nt_B l h B N tx (skw B N p) (by omega) sv _ (fun m2 hj => ⟨rfl, ⟨tx.of hj.1, hj.2.1, hj.2.2.2.1, by rw [hj.2.2.1, sv], by rw [hj.2.2.2.2, wv], fb.2⟩, hj.1⟩) _ 0 _ (Nat.lt_succ_self _) ⟨(te_b fb.2).1, (te_l fb.2 sv).1.symm, ((fr.trans (FRn.s (by decide) (by decide))).trans (FRn.s (by decide) (by decide))).trans (FRn.s (by decide) (by decide)), by rw [hs_k (by decide), hs_k (by decide), hs_k (by decide)]; exact e3, hs_s, by rw [hs_k (by decide), hs_k (by decide), hs_s]; rfl, by rw [hs_k (by decide), hs_s]; rfl⟩)
        | (have sv : srt9 B N (skw B N p) = 2 := by rw [srt9, if_neg (by omega), if_neg (by rw [el]; decide), if_pos ed]
           have wv : wo B N (skw B N p) = dF B (skw B N p) (te B N (skw B N p) - (skw B N p)) := by rw [wo, sv]; rfl
           refine r_nt_E l _ _ hs_s (r_nt_C l h B N tx (skw B N p) (by omega) sv _ (fun m2 hj => ⟨rfl, ⟨tx.of hj.1, hj.2.1, hj.2.2.2.1, by rw [hj.2.2.1, sv], by rw [hj.2.2.2.2, wv], fb.2⟩, hj.1⟩) _ 0 _ (Nat.lt_succ_self _) ⟨(te_b fb.2).1, (te_d fb.2 sv).1.symm, ((fr.trans (FRn.s (by decide) (by decide))).trans (FRn.s (by decide) (by decide))).trans (FRn.s (by decide) (by decide)), by rw [hs_k (by decide), hs_k (by decide), hs_k (by decide)]; exact e3, hs_s, by rw [hs_k (by decide), hs_k (by decide), hs_s]; rfl, by rw [hs_k (by decide), hs_s]; rfl⟩))
        | (have sv : srt9 B N (skw B N p) = 3 := by rw [srt9, if_neg (by omega), if_neg (by rw [el]; decide), if_neg (by rw [ed]; decide)]
           have wv : wo B N (skw B N p) = B (skw B N p) := by rw [wo, sv]; rfl
           have tv : te B N (skw B N p) = (skw B N p) + 1 := by rw [te_s fb.2 (by omega) (by omega), if_pos (by omega)]
           refine r_nt_D l _ _ 3 (by rw [hs_k (by decide), hs_k (by decide), hs_s]) (Or.inr rfl) ⟨rfl, ⟨tx.of (((((fr.trans (FRn.s (by decide) (by decide))).trans (FRn.s (by decide) (by decide))).trans (FRn.s (by decide) (by decide))).trans (FRn.s (by decide) (by decide))).trans (FRn.s (by decide) (by decide))), by rw [hs_k (by decide), hs_k (by decide), hs_k (by decide), hs_k (by decide), hs_k (by decide)]; exact e3, by rw [hs_s, tv]; omega, by rw [hs_k (by decide), hs_k (by decide), hs_s, sv], by rw [hs_k (by decide), hs_s, wv], fb.2⟩, ((((fr.trans (FRn.s (by decide) (by decide))).trans (FRn.s (by decide) (by decide))).trans (FRn.s (by decide) (by decide))).trans (FRn.s (by decide) (by decide))).trans (FRn.s (by decide) (by decide))⟩)
set_option maxRecDepth 20000 in
set_option maxHeartbeats 1000000 in
theorem r_isWrd (l : Launch) (h : jH) (B : Nat → Int) (N f : Nat) (tk : TR h B N f) (k : Nat) (hk9 : k < 9) (wv : Int) (hw : cw k (sI k).length = wv) (w1 : -1 ≤ wv) (w2 : wv < 1125899906842624) : cI l 320 [.ref 388, .long (jl wv)] h (fun z h' => h' = h ∧ z = zb (wd B N f k)) := by
  obtain ⟨tx, e5, e6, e7, e8, fN⟩ := tk
  have n400 := tx.2.2.1
  have wr := wo_r (B := B) fN tx.2.2.2
  have sr := srt9_r (B := B) (N := N) (f := f)
  have we := wd_e (B := B) fN hk9
  rw [hw] at we
  refine cI.ofZ rfl rfl ?_
  refine tl_aload_n rfl rfl ?_
  refine tl_geti (c := 12) (k9 := 57) rfl rfl rfl ?_
  rw [e7]
  refine tl_iconst rfl ?_
  refine tl_icmp_ne (tgt := 21) rfl rfl ⟨by omega, by omega⟩ ⟨by omega, by omega⟩ (fun c1 => ?_) (fun c1 => ?_)
  · skip
    refine tl_iconst rfl ?_
    refine tl_iret rfl ?_
    -- leaf 0 at 22
    first
      | (refine ⟨1, rfl, Or.inr rfl, rfl, ?_⟩; rw [we.mpr ⟨by omega, by omega⟩]; rfl)
      | (refine ⟨0, rfl, Or.inl rfl, rfl, ?_⟩; rw [show (wd B N f k) = false from Bool.eq_false_iff.mpr (fun q => by have := we.mp q; omega)]; rfl)
  · show jT _ _ 8 _ _ _ _
    show jT _ _ 8 _ _ _ _
    refine tl_aload_n rfl rfl ?_
    refine tl_getl (c := 12) (k9 := 58) rfl rfl rfl ?_
    rw [e8]
    refine tl_lload_n rfl rfl ?_
    refine tl_lcmp rfl ⟨by omega, by omega⟩ ⟨by omega, by omega⟩ ?_
    have lc : (wo B N f = wv ∧ (if wv < wo B N f then (1 : Int) else if wo B N f = wv then 0 else -1) = 0) ∨ (wo B N f ≠ wv ∧ (if wv < wo B N f then (1 : Int) else if wo B N f = wv then 0 else -1) ≠ 0) := by
      by_cases c : wo B N f = wv
      · rw [if_neg (by omega), if_pos c]; exact Or.inl ⟨c, rfl⟩
      · refine Or.inr ⟨c, ?_⟩; split; omega; (try rw [if_neg c]); omega
    have lc9 : -1 ≤ (if wv < wo B N f then (1 : Int) else if wo B N f = wv then 0 else -1) ∧ (if wv < wo B N f then (1 : Int) else if wo B N f = wv then 0 else -1) ≤ 1 := by split; omega; split <;> omega
    refine tl_if_ne (tgt := 21) rfl rfl ⟨by omega, by omega⟩ (fun c2 => ?_) (fun c2 => ?_)
    · skip
      refine tl_iconst rfl ?_
      refine tl_iret rfl ?_
      -- leaf 1 at 22
      first
        | (refine ⟨1, rfl, Or.inr rfl, rfl, ?_⟩; rw [we.mpr ⟨by omega, by omega⟩]; rfl)
        | (refine ⟨0, rfl, Or.inl rfl, rfl, ?_⟩; rw [show (wd B N f k) = false from Bool.eq_false_iff.mpr (fun q => by have := we.mp q; omega)]; rfl)
    · show jT _ _ 17 _ _ _ _
      show jT _ _ 17 _ _ _ _
      refine tl_iconst rfl ?_
      refine tl_goto (tgt := 22) rfl rfl ?_
      refine tl_iret rfl ?_
      -- leaf 2 at 22
      first
        | (refine ⟨1, rfl, Or.inr rfl, rfl, ?_⟩; rw [we.mpr ⟨by omega, by omega⟩]; rfl)
        | (refine ⟨0, rfl, Or.inl rfl, rfl, ?_⟩; rw [show (wd B N f k) = false from Bool.eq_false_iff.mpr (fun q => by have := we.mp q; omega)]; rfl)
set_option maxRecDepth 20000 in
set_option maxHeartbeats 1000000 in
theorem r_isSgn (l : Launch) (h : jH) (B : Nat → Int) (N f : Nat) (tk : TR h B N f) (c : Int) (c0 : 0 ≤ c) (c9 : c ≤ 255) (c1 : lt9 c = false) (c2 : dt9 c = false) : cI l 321 [.ref 388, .int (jI c)] h (fun z h' => h' = h ∧ z = zb (sg B N f c)) := by
  obtain ⟨tx, e5, e6, e7, e8, fN⟩ := tk
  have n400 := tx.2.2.1
  have wr := wo_r (B := B) fN tx.2.2.2
  have sr := srt9_r (B := B) (N := N) (f := f)
  have we := sg_e (B := B) fN c0 c1 c2
  refine cI.ofZ rfl rfl ?_
  refine tl_aload_n rfl rfl ?_
  refine tl_geti (c := 12) (k9 := 57) rfl rfl rfl ?_
  rw [e7]
  refine tl_iconst rfl ?_
  refine tl_icmp_ne (tgt := 22) rfl rfl ⟨by omega, by omega⟩ ⟨by omega, by omega⟩ (fun c1 => ?_) (fun c1 => ?_)
  · skip
    refine tl_iconst rfl ?_
    refine tl_iret rfl ?_
    -- leaf 0 at 23
    first
      | (refine ⟨1, rfl, Or.inr rfl, rfl, ?_⟩; rw [we.mpr ⟨by omega, by omega⟩]; rfl)
      | (refine ⟨0, rfl, Or.inl rfl, rfl, ?_⟩; rw [show (sg B N f c) = false from Bool.eq_false_iff.mpr (fun q => by have := we.mp q; omega)]; rfl)
  · show jT _ _ 8 _ _ _ _
    show jT _ _ 8 _ _ _ _
    refine tl_aload_n rfl rfl ?_
    refine tl_getl (c := 12) (k9 := 58) rfl rfl rfl ?_
    rw [e8]
    refine tl_iload_n rfl rfl ?_
    refine tl_i2l rfl ⟨by omega, by omega⟩ ?_
    refine tl_lcmp rfl ⟨by omega, by omega⟩ ⟨by omega, by omega⟩ ?_
    have lc : (wo B N f = c ∧ (if c < wo B N f then (1 : Int) else if wo B N f = c then 0 else -1) = 0) ∨ (wo B N f ≠ c ∧ (if c < wo B N f then (1 : Int) else if wo B N f = c then 0 else -1) ≠ 0) := by
      by_cases c : wo B N f = c
      · rw [if_neg (by omega), if_pos c]; exact Or.inl ⟨c, rfl⟩
      · refine Or.inr ⟨c, ?_⟩; split; omega; (try rw [if_neg c]); omega
    have lc9 : -1 ≤ (if c < wo B N f then (1 : Int) else if wo B N f = c then 0 else -1) ∧ (if c < wo B N f then (1 : Int) else if wo B N f = c then 0 else -1) ≤ 1 := by split; omega; split <;> omega
    refine tl_if_ne (tgt := 22) rfl rfl ⟨by omega, by omega⟩ (fun c2 => ?_) (fun c2 => ?_)
    · skip
      refine tl_iconst rfl ?_
      show jT _ _ 23 _ _ _ _
      refine tl_iret rfl ?_
      -- leaf 1 at 23
      first
        | (refine ⟨1, rfl, Or.inr rfl, rfl, ?_⟩; rw [we.mpr ⟨by omega, by omega⟩]; rfl)
        | (refine ⟨0, rfl, Or.inl rfl, rfl, ?_⟩; rw [show (sg B N f c) = false from Bool.eq_false_iff.mpr (fun q => by have := we.mp q; omega)]; rfl)
    · show jT _ _ 18 _ _ _ _
      refine tl_iconst rfl ?_
      refine tl_goto (tgt := 23) rfl rfl ?_
      refine tl_iret rfl ?_
      -- leaf 2 at 23
      first
        | (refine ⟨1, rfl, Or.inr rfl, rfl, ?_⟩; rw [we.mpr ⟨by omega, by omega⟩]; rfl)
        | (refine ⟨0, rfl, Or.inl rfl, rfl, ?_⟩; rw [show (sg B N f c) = false from Bool.eq_false_iff.mpr (fun q => by have := we.mp q; omega)]; rfl)
/-- good at f, or bad with the fault at f -/
def RTx (h : jH) (B : Nat → Int) (N : Nat) (b : Bool) (f : Nat) : Prop := TR h B N f ∧ h 388 60 = zb b ∧ (b = true → h 388 59 = (f : Int)) ∧ (b = false → h 388 59 = -1)
def FBx (h h' : jH) : Prop := (∀ x, x ≠ 388 → h' x = h x) ∧ ∀ q, (q < 55 ∨ 60 < q) → h' 388 q = h 388 q
theorem FBx.rfl9 {h : jH} : FBx h h := ⟨fun _ _ => rfl, fun _ _ => rfl⟩
theorem FBx.trans {a b c : jH} (h1 : FBx a b) (h2 : FBx b c) : FBx a c := ⟨fun y a1 => (h2.1 y a1).trans (h1.1 y a1), fun q a1 => (h2.2 q a1).trans (h1.2 q a1)⟩
theorem FRn.fb {a b : jH} (h : FRn a b) : FBx a b := ⟨h.1, fun q a => h.2 q (by omega)⟩
/-- one thing that must be there -/
def mv9 (B : Nat → Int) (N : Nat) (b : Bool) (f : Nat) (c : Bool) : Bool × Nat := if b = true then (true, f) else if c = true then (false, nx B N f) else (true, f)
theorem mv9_b {B : Nat → Int} {N : Nat} {f : Nat} {c : Bool} : mv9 B N true f c = (true, f) := rfl
theorem mv9_t {B : Nat → Int} {N : Nat} {f : Nat} : mv9 B N false f true = (false, nx B N f) := rfl
theorem mv9_f {B : Nat → Int} {N : Nat} {f : Nat} : mv9 B N false f false = (true, f) := rfl
theorem RTx.tr {h : jH} {B : Nat → Int} {N : Nat} {b : Bool} {f : Nat} (k : RTx h B N b f) : TR h B N f := k.1
set_option maxRecDepth 20000 in
set_option maxHeartbeats 1000000 in
theorem r_must (l : Launch) (h : jH) (B : Nat → Int) (N : Nat) (b : Bool) (f : Nat) (k : RTx h B N b f) (c : Bool) : cV l 322 [.ref 388, .int (jI (zb c))] h (fun h' => RTx h' B N (mv9 B N b f c).1 (mv9 B N b f c).2 ∧ FBx h h') := by
  obtain ⟨tk, e60, e59, e9⟩ := k
  obtain ⟨tx, e5, e6, e7, e8, fN⟩ := tk
  have tb := te_b (B := B) fN
  cases b with
  | true =>
    rw [mv9_b]
    have e60t : h 388 60 = 1 := e60
    refine cV.of rfl rfl ?_
    refine tl_aload_n rfl rfl ?_
    refine tl_geti (c := 12) (k9 := 60) rfl rfl rfl ?_
    rw [e60t]
    refine tl_if_ne (tgt := 24) rfl rfl ⟨by omega, by omega⟩ (fun c1 => ?_) (fun c1 => ?_)
    · skip
      refine tl_aload_n rfl rfl ?_
      refine tl_geti (c := 12) (k9 := 60) rfl rfl rfl ?_
      rw [e60t]
      refine tl_if_ne (tgt := 35) rfl rfl ⟨by omega, by omega⟩ (fun c2 => ?_) (fun c2 => ?_)
      · skip
        show jT _ _ 35 _ _ _ _
        refine tl_ret rfl ?_
        -- leaf 0 at 35
        exact ⟨rfl, ⟨⟨tx, e5, e6, e7, e8, fN⟩, e60, e59, e9⟩, FBx.rfl9⟩
      · show jT _ _ 31 _ _ _ _
        exfalso; omega
    · show jT _ _ 7 _ _ _ _
      exfalso; omega
  | false =>
    have e60t : h 388 60 = 0 := e60
    cases c with
    | false =>
      rw [mv9_f]
      refine cV.of rfl rfl ?_
      show jT l 322 0 [some (.ref 388), some (.int (jI 0))] [] h _
      refine tl_aload_n rfl rfl ?_
      refine tl_geti (c := 12) (k9 := 60) rfl rfl rfl ?_
      rw [e60t]
      refine tl_if_ne (tgt := 24) rfl rfl ⟨by omega, by omega⟩ (fun c1 => ?_) (fun c1 => ?_)
      · skip
        exfalso; omega
      · show jT _ _ 7 _ _ _ _
        refine tl_iload_n rfl rfl ?_
        refine tl_if_ne (tgt := 24) rfl rfl ⟨by omega, by omega⟩ (fun c2 => ?_) (fun c2 => ?_)
        · skip
          exfalso; omega
        · show jT _ _ 11 _ _ _ _
          refine tl_aload_n rfl rfl ?_
          show jT _ _ 12 _ _ _ _
          refine tl_iconst rfl ?_
          refine tl_putz (c := 12) (k9 := 60) rfl rfl (by omega) rfl rfl ?_
          refine tl_aload_n rfl rfl ?_
          refine tl_aload_n rfl rfl ?_
          refine tl_geti (c := 12) (k9 := 55) rfl rfl rfl ?_
          rw [hs_k (by decide), e5]
          refine tl_puti (c := 12) (k9 := 59) rfl rfl rfl rfl ?_
          refine tl_aload_n rfl rfl ?_
          show jT _ _ 25 _ _ _ _
          refine tl_geti (c := 12) (k9 := 60) rfl rfl rfl ?_
          rw [hs_k (by decide), hs_s]
          refine tl_if_ne (tgt := 35) rfl rfl ⟨by omega, by omega⟩ (fun c3 => ?_) (fun c3 => ?_)
          · skip
            refine tl_ret rfl ?_
            -- leaf 0 at 35
            have f9 : FBx h (hs (hs h 388 60 1) 388 59 (f : Int)) := ⟨fun x hx => by rw [hs_O hx, hs_O hx], fun q hq => by rw [hs_k (by omega), hs_k (by omega)]⟩
            refine ⟨rfl, ⟨⟨⟨by rw [f9.2 8 (by omega)]; exact tx.1, fun i hi => by rw [f9.1 393 (by decide)]; exact tx.2.1 i hi, tx.2.2⟩, by rw [hs_k (by decide), hs_k (by decide)]; exact e5, by rw [hs_k (by decide), hs_k (by decide)]; exact e6, by rw [hs_k (by decide), hs_k (by decide)]; exact e7, by rw [hs_k (by decide), hs_k (by decide)]; exact e8, fN⟩, by rw [hs_k (by decide), hs_s]; rfl, fun _ => hs_s, fun q => absurd (show true = false from q) (by decide)⟩, f9⟩
          · show jT _ _ 31 _ _ _ _
            exfalso; omega
    | true =>
      rw [mv9_t]
      refine cV.of rfl rfl ?_
      show jT l 322 0 [some (.ref 388), some (.int (jI 1))] [] h _
      refine tl_aload_n rfl rfl ?_
      refine tl_geti (c := 12) (k9 := 60) rfl rfl rfl ?_
      rw [e60t]
      refine tl_if_ne (tgt := 24) rfl rfl ⟨by omega, by omega⟩ (fun c1 => ?_) (fun c1 => ?_)
      · skip
        exfalso; omega
      · show jT _ _ 7 _ _ _ _
        refine tl_iload_n rfl rfl ?_
        refine tl_if_ne (tgt := 24) rfl rfl ⟨by omega, by omega⟩ (fun c2 => ?_) (fun c2 => ?_)
        · skip
          refine tl_aload_n rfl rfl ?_
          show jT _ _ 25 _ _ _ _
          refine tl_geti (c := 12) (k9 := 60) rfl rfl rfl ?_
          rw [e60t]
          refine tl_if_ne (tgt := 35) rfl rfl ⟨by omega, by omega⟩ (fun c3 => ?_) (fun c3 => ?_)
          · skip
            exfalso; omega
          · show jT _ _ 31 _ _ _ _
            refine tl_aload_n rfl rfl ?_
            refine tl_v0v (c9 := 12) (r_next l h B N tx (te B N f) tb.2.1 e6) rfl rfl rfl rfl rfl (Nat.le_of_ble_eq_true rfl) (fun h1 p1 => ?_)
            obtain ⟨t1, f1⟩ := p1
            refine tl_ret rfl ?_
            -- leaf 0 at 35
            exact ⟨rfl, ⟨t1, by rw [f1.2 60 (by omega)]; exact e60, fun q => absurd (show false = true from q) (by decide), fun _ => by rw [f1.2 59 (by omega)]; exact e9 rfl⟩, f1.fb⟩
        · show jT _ _ 11 _ _ _ _
          exfalso; omega
theorem r_mustZ (l : Launch) (h : jH) (B : Nat → Int) (N : Nat) (b : Bool) (f : Nat) (k : RTx h B N b f) (z : Int) (c : Bool) (hz : zb c = z) : cV l 322 [.ref 388, .int (jI z)] h (fun h' => RTx h' B N (mv9 B N b f c).1 (mv9 B N b f c).2 ∧ FBx h h') := by
  subst hz
  exact r_must l h B N b f k c
set_option maxRecDepth 20000 in
set_option maxHeartbeats 1000000 in
theorem r_number (l : Launch) (h : jH) (B : Nat → Int) (N : Nat) (b : Bool) (f : Nat) (k : RTx h B N b f) (lo hi9 : Int) (l0 : 0 ≤ lo) (l1 : lo ≤ 999) (h90 : 0 ≤ hi9) (h91 : hi9 ≤ 999) : cI l 323 [.ref 388, .long (jl lo), .long (jl hi9)] h (fun z h' => z = wo B N f ∧ RTx h' B N (mv9 B N b f (nb B N f lo hi9)).1 (mv9 B N b f (nb B N f lo hi9)).2 ∧ FBx h h') := by
  have tk := k.1
  obtain ⟨tx, e5, e6, e7, e8, fN⟩ := tk
  have n400 := tx.2.2.1
  have wr := wo_r (B := B) fN tx.2.2.2
  have sr := srt9_r (B := B) (N := N) (f := f)
  have we := nb_e (B := B) (lo := lo) fN h91
  refine cI.of rfl rfl ?_
  refine tl_aload_n rfl rfl ?_
  refine tl_getl (c := 12) (k9 := 58) rfl rfl rfl ?_
  rw [e8]
  refine tl_l2iw rfl ?_
  refine tl_istore rfl (Nat.le_of_ble_eq_true rfl) rfl ?_
  refine tl_aload_n rfl rfl ?_
  refine tl_aload_n rfl rfl ?_
  show jT _ _ 9 _ _ _ _
  refine tl_geti (c := 12) (k9 := 57) rfl rfl rfl ?_
  rw [e7]
  refine tl_iconst rfl ?_
  refine tl_icmp_ne (tgt := 32) rfl rfl ⟨by omega, by omega⟩ ⟨by omega, by omega⟩ (fun c1 => ?_) (fun c1 => ?_)
  · skip
    refine tl_iconst rfl ?_
    refine tl_v1v (c9 := 12) (r_mustZ l h B N b f k _ (nb B N f lo hi9) (by first | (rw [we.mpr ⟨by omega, by omega, by omega⟩]; rfl) | (rw [show nb B N f lo hi9 = false from Bool.eq_false_iff.mpr (fun q => by have := we.mp q; omega)]; rfl))) rfl rfl rfl rfl rfl (Nat.le_of_ble_eq_true rfl) (fun h2 p2 => ?_)
    refine tl_iload rfl rfl ?_
    refine tl_iret rfl ?_
    -- leaf 0 at 38
    exact ⟨_, rfl, rfl, p2⟩
  · show jT _ _ 16 _ _ _ _
    show jT _ _ 16 _ _ _ _
    refine tl_aload_n rfl rfl ?_
    refine tl_getl (c := 12) (k9 := 58) rfl rfl rfl ?_
    rw [e8]
    refine tl_lload_n rfl rfl ?_
    refine tl_lload_n rfl rfl ?_
    refine tl_s3i (c_in l h (wo B N f) lo hi9 ⟨by omega, by omega⟩ ⟨by omega, by omega⟩ ⟨by omega, by omega⟩) rfl rfl rfl (Nat.le_of_ble_eq_true rfl) (fun z1 h1 p1 => ?_)
    obtain ⟨q1, p1⟩ := p1
    have q1 := q1.symm
    subst q1
    have pz : z1 = 0 ∧ ¬ (lo ≤ wo B N f ∧ wo B N f ≤ hi9) ∨ z1 = 1 ∧ lo ≤ wo B N f ∧ wo B N f ≤ hi9 := by rw [p1]; split <;> omega
    refine tl_if_eq (tgt := 32) rfl rfl ⟨by omega, by omega⟩ (fun c2 => ?_) (fun c2 => ?_)
    · skip
      refine tl_iconst rfl ?_
      show jT _ _ 33 _ _ _ _
      refine tl_v1v (c9 := 12) (r_mustZ l h B N b f k _ (nb B N f lo hi9) (by first | (rw [we.mpr ⟨by omega, by omega, by omega⟩]; rfl) | (rw [show nb B N f lo hi9 = false from Bool.eq_false_iff.mpr (fun q => by have := we.mp q; omega)]; rfl))) rfl rfl rfl rfl rfl (Nat.le_of_ble_eq_true rfl) (fun h2 p2 => ?_)
      refine tl_iload rfl rfl ?_
      refine tl_iret rfl ?_
      -- leaf 1 at 38
      exact ⟨_, rfl, rfl, p2⟩
    · show jT _ _ 28 _ _ _ _
      refine tl_iconst rfl ?_
      refine tl_goto (tgt := 33) rfl rfl ?_
      refine tl_v1v (c9 := 12) (r_mustZ l h B N b f k _ (nb B N f lo hi9) (by first | (rw [we.mpr ⟨by omega, by omega, by omega⟩]; rfl) | (rw [show nb B N f lo hi9 = false from Bool.eq_false_iff.mpr (fun q => by have := we.mp q; omega)]; rfl))) rfl rfl rfl rfl rfl (Nat.le_of_ble_eq_true rfl) (fun h2 p2 => ?_)
      refine tl_iload rfl rfl ?_
      show jT _ _ 38 _ _ _ _
      refine tl_iret rfl ?_
      -- leaf 2 at 38
      exact ⟨_, rfl, rfl, p2⟩
