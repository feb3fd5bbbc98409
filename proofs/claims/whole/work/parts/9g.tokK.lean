/-! recipes: tokens, of the class -/
theorem rs363 : RowS 363 364 400 := ⟨rfl, rfl, rfl, rfl⟩
def TXK (h : jH) (B : Nat → Int) (N : Nat) : Prop := h 363 1 = (N : Int) ∧ (∀ i, i < N → h 364 i = B i) ∧ N ≤ 400 ∧ ∀ i, i < N → byt (B i)
def FN (h h' : jH) : Prop := (∀ x, x ≠ 362 → h' x = h x) ∧ ∀ q, q ≠ 3 → q ≠ 4 → q ≠ 5 → h' 362 q = h 362 q
theorem FN.rfl9 {h : jH} : FN h h := ⟨fun _ _ => rfl, fun _ _ _ _ => rfl⟩
theorem FN.trans {a b c : jH} (h1 : FN a b) (h2 : FN b c) : FN a c := ⟨fun y a1 => (h2.1 y a1).trans (h1.1 y a1), fun q a1 a2 a3 => (h2.2 q a1 a2 a3).trans (h1.2 q a1 a2 a3)⟩
theorem FN.s3 {h : jH} {v : Int} : FN h (hs h 362 3 v) := ⟨fun x hx => hs_O hx, fun q a _ _ => hs_k a⟩
theorem FN.s4 {h : jH} {v : Int} : FN h (hs h 362 4 v) := ⟨fun x hx => hs_O hx, fun q _ a _ => hs_k a⟩
theorem FN.s5 {h : jH} {v : Int} : FN h (hs h 362 5 v) := ⟨fun x hx => hs_O hx, fun q _ _ a => hs_k a⟩
theorem TXK.of {h h' : jH} {B : Nat → Int} {N : Nat} (k : TXK h B N) (f : FN h h') : TXK h' B N := ⟨by rw [f.1 363 (by decide)]; exact k.1, fun i hi => by rw [f.1 364 (by decide)]; exact k.2.1 i hi, k.2.2⟩
def FMx (h h' : jH) : Prop := (∀ x, x ≠ 362 → h' x = h x) ∧ ∀ q, q ≠ 3 → q ≠ 4 → h' 362 q = h 362 q
theorem FMx.fn {h h' : jH} (f : FMx h h') : FN h h' := ⟨f.1, fun q a b _ => f.2 q a b⟩
theorem FMx.trans {a b c : jH} (h1 : FMx a b) (h2 : FMx b c) : FMx a c := ⟨fun y a1 => (h2.1 y a1).trans (h1.1 y a1), fun q a1 a2 => (h2.2 q a1 a2).trans (h1.2 q a1 a2)⟩
theorem FMx.s3 {h : jH} {v : Int} : FMx h (hs h 362 3 v) := ⟨fun x hx => hs_O hx, fun q a _ => hs_k a⟩
theorem FMx.s4 {h : jH} {v : Int} : FMx h (hs h 362 4 v) := ⟨fun x hx => hs_O hx, fun q _ a => hs_k a⟩
/-- the token at f is the next -/
def TK (h : jH) (B : Nat → Int) (N f : Nat) : Prop := TXK h B N ∧ h 362 3 = (f : Int) ∧ h 362 4 = (te B N f : Int) ∧ f ≤ N
theorem gt9_r {B : Nat → Int} {N i : Nat} (h : ∀ i, i < N → byt (B i)) : -1 ≤ gt9 B N i ∧ gt9 B N i ≤ 255 := by
  unfold gt9
  split
  · have := h i (by assumption); unfold byt at this; omega
  · omega
theorem k_tget (l : Launch) (h : jH) (B : Nat → Int) (N : Nat) (tx : TXK h B N) (p : Nat) (hp : p ≤ 100000) : cI l 99 [.ref 363, .int (jI (p : Int))] h (fun z h' => h' = h ∧ z = gt9 B N p) := by
  obtain ⟨v, h', ⟨z, e, p1, p2⟩, q⟩ := c_Row_get l rs363 h (p : Int) (by rw [tx.1]; omega) (by rw [tx.1]; have := tx.2.2.1; omega) ⟨by omega, by omega⟩
  refine ⟨v, h', ⟨z, e, p1, ?_⟩, q⟩
  rw [p2, tx.1, gt9]
  by_cases c : p < N
  · rw [if_pos (by omega), if_pos c, Int.toNat_natCast, tx.2.1 p c]
  · rw [if_neg (by omega), if_neg c]
set_option maxRecDepth 20000 in
set_option maxHeartbeats 1000000 in
theorem k_isLetter (l : Launch) (h : jH) (c : Int) (c0 : -1 ≤ c) (c1 : c ≤ 255) : cI l 87 [.int (jI c)] h (fun z h' => h' = h ∧ z = zb (lt9 c)) := by
  refine cI.ofZ rfl rfl ?_
  refine tl_iload_n rfl rfl ?_
  refine tl_bipush rfl rfl ?_
  refine tl_icmp_lt (tgt := 16) rfl rfl ⟨by omega, by omega⟩ ⟨by omega, by omega⟩ (fun c1 => ?_) (fun c1 => ?_)
  · skip
    refine tl_iconst rfl ?_
    refine tl_iret rfl ?_
    -- leaf 0 at 17
    first
      | (refine ⟨1, rfl, Or.inr rfl, rfl, ?_⟩; rw [lt9_t.mpr ⟨by omega, by omega⟩]; rfl)
      | (refine ⟨0, rfl, Or.inl rfl, rfl, ?_⟩; rw [lt9_f.mpr (by omega)]; rfl)
  · show jT _ _ 6 _ _ _ _
    refine tl_iload_n rfl rfl ?_
    show jT _ _ 7 _ _ _ _
    refine tl_bipush rfl rfl ?_
    refine tl_icmp_gt (tgt := 16) rfl rfl ⟨by omega, by omega⟩ ⟨by omega, by omega⟩ (fun c2 => ?_) (fun c2 => ?_)
    · skip
      refine tl_iconst rfl ?_
      refine tl_iret rfl ?_
      -- leaf 1 at 17
      first
        | (refine ⟨1, rfl, Or.inr rfl, rfl, ?_⟩; rw [lt9_t.mpr ⟨by omega, by omega⟩]; rfl)
        | (refine ⟨0, rfl, Or.inl rfl, rfl, ?_⟩; rw [lt9_f.mpr (by omega)]; rfl)
    · show jT _ _ 12 _ _ _ _
      refine tl_iconst rfl ?_
      refine tl_goto (tgt := 17) rfl rfl ?_
      refine tl_iret rfl ?_
      -- leaf 2 at 17
      first
        | (refine ⟨1, rfl, Or.inr rfl, rfl, ?_⟩; rw [lt9_t.mpr ⟨by omega, by omega⟩]; rfl)
        | (refine ⟨0, rfl, Or.inl rfl, rfl, ?_⟩; rw [lt9_f.mpr (by omega)]; rfl)
set_option maxRecDepth 20000 in
set_option maxHeartbeats 1000000 in
theorem k_isDig (l : Launch) (h : jH) (c : Int) (c0 : -1 ≤ c) (c1 : c ≤ 255) : cI l 88 [.int (jI c)] h (fun z h' => h' = h ∧ z = zb (dt9 c)) := by
  refine cI.ofZ rfl rfl ?_
  refine tl_iload_n rfl rfl ?_
  refine tl_bipush rfl rfl ?_
  refine tl_icmp_lt (tgt := 16) rfl rfl ⟨by omega, by omega⟩ ⟨by omega, by omega⟩ (fun c1 => ?_) (fun c1 => ?_)
  · skip
    refine tl_iconst rfl ?_
    refine tl_iret rfl ?_
    -- leaf 0 at 17
    first
      | (refine ⟨1, rfl, Or.inr rfl, rfl, ?_⟩; rw [dt9_t.mpr ⟨by omega, by omega⟩]; rfl)
      | (refine ⟨0, rfl, Or.inl rfl, rfl, ?_⟩; rw [dt9_f.mpr (by omega)]; rfl)
  · show jT _ _ 6 _ _ _ _
    refine tl_iload_n rfl rfl ?_
    show jT _ _ 7 _ _ _ _
    refine tl_bipush rfl rfl ?_
    refine tl_icmp_gt (tgt := 16) rfl rfl ⟨by omega, by omega⟩ ⟨by omega, by omega⟩ (fun c2 => ?_) (fun c2 => ?_)
    · skip
      refine tl_iconst rfl ?_
      refine tl_iret rfl ?_
      -- leaf 1 at 17
      first
        | (refine ⟨1, rfl, Or.inr rfl, rfl, ?_⟩; rw [dt9_t.mpr ⟨by omega, by omega⟩]; rfl)
        | (refine ⟨0, rfl, Or.inl rfl, rfl, ?_⟩; rw [dt9_f.mpr (by omega)]; rfl)
    · show jT _ _ 12 _ _ _ _
      refine tl_iconst rfl ?_
      refine tl_goto (tgt := 17) rfl rfl ?_
      refine tl_iret rfl ?_
      -- leaf 2 at 17
      first
        | (refine ⟨1, rfl, Or.inr rfl, rfl, ?_⟩; rw [dt9_t.mpr ⟨by omega, by omega⟩]; rfl)
        | (refine ⟨0, rfl, Or.inl rfl, rfl, ?_⟩; rw [dt9_f.mpr (by omega)]; rfl)
set_option maxRecDepth 20000 in
set_option maxHeartbeats 1000000 in
theorem k_nt_A (l : Launch) (h : jH) (B : Nat → Int) (N : Nat) (tx : TXK h B N) (P : Option Value → jH → Prop) (X : Nat) (hx : ∀ mem, (FMx h mem ∧ mem 362 3 = (X : Int)) → jT l 89 51 [some (.ref 362)] [] mem P) : ∀ (m : Nat) (q : Nat) (mem : jH), N - q < m → (q ≤ N ∧ skw B N q = X ∧ FMx h mem ∧ mem 362 3 = (q : Int)) → jT l 89 8 [some (.ref 362)] [] mem P := by
  have n400 := tx.2.2.1
  intro m
  induction m with
  | zero => intro q mem hk; omega
  | succ m ih =>
    intro q mem hk hi
    obtain ⟨i0, i1, fr, e3⟩ := hi
    have txm := tx.of fr.fn
    have eN := txm.1
    have gb := gt9_r (B := B) (N := N) (i := q) tx.2.2.2
    refine tl_aload_n rfl rfl ?_
    refine tl_geti (c := 7) (k9 := 3) rfl rfl rfl ?_
    rw [e3]
    refine tl_aload_n rfl rfl ?_
    refine tl_getr (c := 7) (k9 := 2) (b := 363) rfl rfl rfl rfl ?_
    refine tl_geti (c := 8) (k9 := 1) rfl rfl rfl ?_
    rw [eN]
    refine tl_icmp_ge (tgt := 51) rfl rfl ⟨by omega, by omega⟩ ⟨by omega, by omega⟩ (fun c1 => ?_) (fun c1 => ?_)
    · skip
      show jT _ _ 51 _ _ _ _
      -- leaf 0 at 51
      have e : skw B N q = q := by
        unfold skw
        refine spn_f ?_
        by_cases c : q < N
        · exact Or.inr (sc9_f.mpr (fun z => by have := gt9_i (B := B) c; omega))
        · exact Or.inl (by omega)
      rw [e] at i1
      exact hx mem ⟨fr, by rw [e3, i1]⟩
    · show jT _ _ 22 _ _ _ _
      show jT _ _ 22 _ _ _ _
      refine tl_aload_n rfl rfl ?_
      refine tl_getr (c := 7) (k9 := 2) (b := 363) rfl rfl rfl rfl ?_
      refine tl_aload_n rfl rfl ?_
      refine tl_geti (c := 7) (k9 := 3) rfl rfl rfl ?_
      rw [e3]
      refine tl_v1i (c9 := 8) (k_tget l mem B N txm (q) (by omega)) rfl rfl rfl rfl rfl (Nat.le_of_ble_eq_true rfl) (fun z1 h1 p1 => ?_)
      obtain ⟨q1, rfl⟩ := p1
      have q1 := q1.symm
      subst q1
      refine tl_bipush rfl rfl ?_
      refine tl_icmp_ne (tgt := 51) rfl rfl ⟨by omega, by omega⟩ ⟨by omega, by omega⟩ (fun c2 => ?_) (fun c2 => ?_)
      · skip
        show jT _ _ 51 _ _ _ _
        -- leaf 1 at 51
        have e : skw B N q = q := by
          unfold skw
          refine spn_f ?_
          by_cases c : q < N
          · exact Or.inr (sc9_f.mpr (fun z => by have := gt9_i (B := B) c; omega))
          · exact Or.inl (by omega)
        rw [e] at i1
        exact hx mem ⟨fr, by rw [e3, i1]⟩
      · show jT _ _ 38 _ _ _ _
        show jT _ _ 38 _ _ _ _
        refine tl_aload_n rfl rfl ?_
        refine tl_dup rfl rfl ?_
        refine tl_geti (c := 7) (k9 := 3) rfl rfl rfl ?_
        rw [e3]
        refine tl_iconst rfl ?_
        refine tl_iadd rfl ?_
        refine tl_puti (c := 7) (k9 := 3) rfl rfl rfl rfl ?_
        refine tl_goto (tgt := 8) rfl rfl ?_
        show jT _ _ 8 _ _ _ _
        -- leaf 2 at 8
        have c : q < N := by omega
        have e : skw B N q = skw B N (q + 1) := by
          unfold skw
          exact spn_t c (sc9_t.mpr (by have := gt9_i (B := B) c; omega))
        rw [e] at i1
        exact ih (q + 1) _ (by omega) ⟨by omega, i1, fr.trans FMx.s3, by rw [hs_s]; omega⟩
set_option maxRecDepth 20000 in
set_option maxHeartbeats 1000000 in
theorem k_nt_B (l : Launch) (h : jH) (B : Nat → Int) (N : Nat) (tx : TXK h B N) (P : Option Value → jH → Prop) (f X : Nat) (hP : ∀ mem, (FMx h mem ∧ mem 362 3 = (f : Int) ∧ mem 362 4 = (X : Int)) → P none mem) : ∀ (m : Nat) (q : Nat) (mem : jH), N - q < m → (q ≤ N ∧ spn B lt9 (N - q) q = X ∧ FMx h mem ∧ mem 362 3 = (f : Int) ∧ mem 362 4 = (q : Int)) → jT l 89 76 [some (.ref 362)] [] mem P := by
  have n400 := tx.2.2.1
  intro m
  induction m with
  | zero => intro q mem hk; omega
  | succ m ih =>
    intro q mem hk hi
    obtain ⟨i0, i1, fr, e3, e4⟩ := hi
    have txm := tx.of fr.fn
    have eN := txm.1
    have gb := gt9_r (B := B) (N := N) (i := q) tx.2.2.2
    refine tl_aload_n rfl rfl ?_
    refine tl_geti (c := 7) (k9 := 4) rfl rfl rfl ?_
    rw [e4]
    refine tl_aload_n rfl rfl ?_
    refine tl_getr (c := 7) (k9 := 2) (b := 363) rfl rfl rfl rfl ?_
    refine tl_geti (c := 8) (k9 := 1) rfl rfl rfl ?_
    rw [eN]
    refine tl_icmp_ge (tgt := 205) rfl rfl ⟨by omega, by omega⟩ ⟨by omega, by omega⟩ (fun c1 => ?_) (fun c1 => ?_)
    · skip
      show jT _ _ 205 _ _ _ _
      refine tl_ret rfl ?_
      -- leaf 0 at 205
      have e : spn B lt9 (N - q) q = q := by
        refine spn_f ?_
        by_cases c : q < N
        · first
          | (exfalso; omega)
          | (refine Or.inr ?_; rw [← gt9_i (B := B) c]; exact ez)
        · exact Or.inl (by omega)
      rw [e] at i1
      exact hP mem ⟨fr, e3, by rw [e4, i1]⟩
    · show jT _ _ 90 _ _ _ _
      refine tl_aload_n rfl rfl ?_
      refine tl_getr (c := 7) (k9 := 2) (b := 363) rfl rfl rfl rfl ?_
      refine tl_aload_n rfl rfl ?_
      refine tl_geti (c := 7) (k9 := 4) rfl rfl rfl ?_
      rw [e4]
      refine tl_v1i (c9 := 8) (k_tget l mem B N txm (q) (by omega)) rfl rfl rfl rfl rfl (Nat.le_of_ble_eq_true rfl) (fun z1 h1 p1 => ?_)
      obtain ⟨q1, rfl⟩ := p1
      have q1 := q1.symm
      subst q1
      refine tl_s1i (k_isLetter l mem (gt9 B N q) (by omega) (by omega)) rfl rfl rfl (Nat.le_of_ble_eq_true rfl) (fun z2 h2 p2 => ?_)
      obtain ⟨q2, rfl⟩ := p2
      have q2 := q2.symm
      subst q2
      have b2 := zb_b (lt9 (gt9 B N q))
      show jT _ _ 104 _ _ _ _
      refine tl_if_eq (tgt := 205) rfl rfl ⟨by omega, by omega⟩ (fun c2 => ?_) (fun c2 => ?_)
      · skip
        have ez := zb0 c2
        refine tl_ret rfl ?_
        -- leaf 1 at 205
        have e : spn B lt9 (N - q) q = q := by
          refine spn_f ?_
          by_cases c : q < N
          · first
            | (exfalso; omega)
            | (refine Or.inr ?_; rw [← gt9_i (B := B) c]; exact ez)
          · exact Or.inl (by omega)
        rw [e] at i1
        exact hP mem ⟨fr, e3, by rw [e4, i1]⟩
      · show jT _ _ 107 _ _ _ _
        have ez := zb1' c2
        refine tl_aload_n rfl rfl ?_
        refine tl_dup rfl rfl ?_
        refine tl_geti (c := 7) (k9 := 4) rfl rfl rfl ?_
        rw [e4]
        refine tl_iconst rfl ?_
        refine tl_iadd rfl ?_
        show jT _ _ 114 _ _ _ _
        refine tl_puti (c := 7) (k9 := 4) rfl rfl rfl rfl ?_
        refine tl_goto (tgt := 76) rfl rfl ?_
        show jT _ _ 76 _ _ _ _
        -- leaf 2 at 76
        have c : q < N := by omega
        have e : spn B lt9 (N - q) q = spn B lt9 (N - (q + 1)) (q + 1) := spn_t c (by rw [← gt9_i (B := B) c]; exact ez)
        rw [e] at i1
        exact ih (q + 1) _ (by omega) ⟨by omega, i1, fr.trans FMx.s4, by rw [hs_k (by decide)]; exact e3, by rw [hs_s]; omega⟩
set_option maxRecDepth 20000 in
set_option maxHeartbeats 1000000 in
theorem k_nt_C (l : Launch) (h : jH) (B : Nat → Int) (N : Nat) (tx : TXK h B N) (P : Option Value → jH → Prop) (f X : Nat) (hP : ∀ mem, (FMx h mem ∧ mem 362 3 = (f : Int) ∧ mem 362 4 = (X : Int)) → P none mem) : ∀ (m : Nat) (q : Nat) (mem : jH), N - q < m → (q ≤ N ∧ spn B dt9 (N - q) q = X ∧ FMx h mem ∧ mem 362 3 = (f : Int) ∧ mem 362 4 = (q : Int)) → jT l 89 137 [some (.ref 362)] [] mem P := by
  have n400 := tx.2.2.1
  intro m
  induction m with
  | zero => intro q mem hk; omega
  | succ m ih =>
    intro q mem hk hi
    obtain ⟨i0, i1, fr, e3, e4⟩ := hi
    have txm := tx.of fr.fn
    have eN := txm.1
    have gb := gt9_r (B := B) (N := N) (i := q) tx.2.2.2
    refine tl_aload_n rfl rfl ?_
    refine tl_geti (c := 7) (k9 := 4) rfl rfl rfl ?_
    rw [e4]
    refine tl_aload_n rfl rfl ?_
    refine tl_getr (c := 7) (k9 := 2) (b := 363) rfl rfl rfl rfl ?_
    refine tl_geti (c := 8) (k9 := 1) rfl rfl rfl ?_
    rw [eN]
    refine tl_icmp_ge (tgt := 205) rfl rfl ⟨by omega, by omega⟩ ⟨by omega, by omega⟩ (fun c1 => ?_) (fun c1 => ?_)
    · skip
      show jT _ _ 205 _ _ _ _
      refine tl_ret rfl ?_
      -- leaf 0 at 205
      have e : spn B dt9 (N - q) q = q := by
        refine spn_f ?_
        by_cases c : q < N
        · first
          | (exfalso; omega)
          | (refine Or.inr ?_; rw [← gt9_i (B := B) c]; exact ez)
        · exact Or.inl (by omega)
      rw [e] at i1
      exact hP mem ⟨fr, e3, by rw [e4, i1]⟩
    · show jT _ _ 151 _ _ _ _
      refine tl_aload_n rfl rfl ?_
      refine tl_getr (c := 7) (k9 := 2) (b := 363) rfl rfl rfl rfl ?_
      refine tl_aload_n rfl rfl ?_
      refine tl_geti (c := 7) (k9 := 4) rfl rfl rfl ?_
      rw [e4]
      refine tl_v1i (c9 := 8) (k_tget l mem B N txm (q) (by omega)) rfl rfl rfl rfl rfl (Nat.le_of_ble_eq_true rfl) (fun z1 h1 p1 => ?_)
      obtain ⟨q1, rfl⟩ := p1
      have q1 := q1.symm
      subst q1
      refine tl_s1i (k_isDig l mem (gt9 B N q) (by omega) (by omega)) rfl rfl rfl (Nat.le_of_ble_eq_true rfl) (fun z2 h2 p2 => ?_)
      obtain ⟨q2, rfl⟩ := p2
      have q2 := q2.symm
      subst q2
      have b2 := zb_b (dt9 (gt9 B N q))
      show jT _ _ 165 _ _ _ _
      refine tl_if_eq (tgt := 205) rfl rfl ⟨by omega, by omega⟩ (fun c2 => ?_) (fun c2 => ?_)
      · skip
        have ez := zb0 c2
        refine tl_ret rfl ?_
        -- leaf 1 at 205
        have e : spn B dt9 (N - q) q = q := by
          refine spn_f ?_
          by_cases c : q < N
          · first
            | (exfalso; omega)
            | (refine Or.inr ?_; rw [← gt9_i (B := B) c]; exact ez)
          · exact Or.inl (by omega)
        rw [e] at i1
        exact hP mem ⟨fr, e3, by rw [e4, i1]⟩
      · show jT _ _ 168 _ _ _ _
        have ez := zb1' c2
        refine tl_aload_n rfl rfl ?_
        refine tl_dup rfl rfl ?_
        refine tl_geti (c := 7) (k9 := 4) rfl rfl rfl ?_
        rw [e4]
        refine tl_iconst rfl ?_
        refine tl_iadd rfl ?_
        show jT _ _ 175 _ _ _ _
        refine tl_puti (c := 7) (k9 := 4) rfl rfl rfl rfl ?_
        refine tl_goto (tgt := 137) rfl rfl ?_
        show jT _ _ 137 _ _ _ _
        -- leaf 2 at 137
        have c : q < N := by omega
        have e : spn B dt9 (N - q) q = spn B dt9 (N - (q + 1)) (q + 1) := spn_t c (by rw [← gt9_i (B := B) c]; exact ez)
        rw [e] at i1
        exact ih (q + 1) _ (by omega) ⟨by omega, i1, fr.trans FMx.s4, by rw [hs_k (by decide)]; exact e3, by rw [hs_s]; omega⟩
set_option maxRecDepth 20000 in
set_option maxHeartbeats 1000000 in
theorem k_nextTok (l : Launch) (h : jH) (B : Nat → Int) (N : Nat) (tx : TXK h B N) (p : Nat) (hp : p ≤ N) (h4 : h 362 4 = (p : Int)) : cV l 89 [.ref 362] h (fun h' => h' 362 3 = (skw B N p : Int) ∧ h' 362 4 = (te B N (skw B N p) : Int) ∧ FMx h h') := by
  have n400 := tx.2.2.1
  have fb := skw_b (B := B) hp
  refine cV.of rfl rfl ?_
  refine tl_aload_n rfl rfl ?_
  refine tl_aload_n rfl rfl ?_
  refine tl_geti (c := 7) (k9 := 4) rfl rfl rfl ?_
  rw [h4]
  refine tl_puti (c := 7) (k9 := 3) rfl rfl rfl rfl ?_
  show jT _ _ 8 _ _ _ _
  -- leaf 0 at 8
  refine k_nt_A l h B N tx _ (skw B N p) (fun m1 hj => ?_) _ p _ (Nat.lt_succ_self _) ⟨hp, rfl, FMx.s3, hs_s⟩
  obtain ⟨fr, e3⟩ := hj
  have txm : TXK (hs m1 362 4 ((skw B N p) : Int)) B N := (tx.of fr.fn).of FN.s4
  have gb := gt9_r (B := B) (N := N) (i := (skw B N p)) tx.2.2.2
  refine tl_aload_n rfl rfl ?_
  refine tl_aload_n rfl rfl ?_
  refine tl_geti (c := 7) (k9 := 3) rfl rfl rfl ?_
  rw [e3]
  refine tl_puti (c := 7) (k9 := 4) rfl rfl rfl rfl ?_
  refine tl_aload_n rfl rfl ?_
  refine tl_getr (c := 7) (k9 := 2) (b := 363) rfl rfl rfl rfl ?_
  show jT _ _ 63 _ _ _ _
  refine tl_aload_n rfl rfl ?_
  refine tl_geti (c := 7) (k9 := 3) rfl rfl rfl ?_
  rw [hs_k (by decide), e3]
  refine tl_v1i (c9 := 8) (k_tget l (hs m1 362 4 ((skw B N p) : Int)) B N txm ((skw B N p)) (by omega)) rfl rfl rfl rfl rfl (Nat.le_of_ble_eq_true rfl) (fun z1 h1 p1 => ?_)
  obtain ⟨q1, rfl⟩ := p1
  have q1 := q1.symm
  subst q1
  refine tl_s1i (k_isLetter l (hs m1 362 4 ((skw B N p) : Int)) (gt9 B N (skw B N p)) (by omega) (by omega)) rfl rfl rfl (Nat.le_of_ble_eq_true rfl) (fun z2 h2 p2 => ?_)
  obtain ⟨q2, rfl⟩ := p2
  have q2 := q2.symm
  subst q2
  have b2 := zb_b (lt9 (gt9 B N (skw B N p)))
  refine tl_if_eq (tgt := 120) rfl rfl ⟨by omega, by omega⟩ (fun c1 => ?_) (fun c1 => ?_)
  · skip
    have el := zb0 c1
    refine tl_aload_n rfl rfl ?_
    refine tl_getr (c := 7) (k9 := 2) (b := 363) rfl rfl rfl rfl ?_
    show jT _ _ 124 _ _ _ _
    refine tl_aload_n rfl rfl ?_
    refine tl_geti (c := 7) (k9 := 3) rfl rfl rfl ?_
    rw [hs_k (by decide), e3]
    refine tl_v1i (c9 := 8) (k_tget l (hs m1 362 4 ((skw B N p) : Int)) B N txm ((skw B N p)) (by omega)) rfl rfl rfl rfl rfl (Nat.le_of_ble_eq_true rfl) (fun z3 h3 p3 => ?_)
    obtain ⟨q3, rfl⟩ := p3
    have q3 := q3.symm
    subst q3
    refine tl_s1i (k_isDig l (hs m1 362 4 ((skw B N p) : Int)) (gt9 B N (skw B N p)) (by omega) (by omega)) rfl rfl rfl (Nat.le_of_ble_eq_true rfl) (fun z4 h4 p4 => ?_)
    obtain ⟨q4, rfl⟩ := p4
    have q4 := q4.symm
    subst q4
    have b4 := zb_b (dt9 (gt9 B N (skw B N p)))
    refine tl_if_eq (tgt := 181) rfl rfl ⟨by omega, by omega⟩ (fun c2 => ?_) (fun c2 => ?_)
    · skip
      have ed := zb0 c2
      refine tl_aload_n rfl rfl ?_
      refine tl_geti (c := 7) (k9 := 3) rfl rfl rfl ?_
      rw [hs_k (by decide), e3]
      show jT _ _ 185 _ _ _ _
      refine tl_aload_n rfl rfl ?_
      refine tl_getr (c := 7) (k9 := 2) (b := 363) rfl rfl rfl rfl ?_
      refine tl_geti (c := 8) (k9 := 1) rfl rfl rfl ?_
      rw [txm.1]
      refine tl_icmp_ge (tgt := 205) rfl rfl ⟨by omega, by omega⟩ ⟨by omega, by omega⟩ (fun c3 => ?_) (fun c3 => ?_)
      · skip
        refine tl_ret rfl ?_
        -- leaf 0 at 205
        have e : te B N (skw B N p) = if (skw B N p) < N then (skw B N p) + 1 else (skw B N p) := by rw [te, if_neg (by rw [el]; decide), if_neg (by rw [ed]; decide)]
        rw [e]
        first
          | (rw [if_neg (by omega)]; exact ⟨rfl, by rw [hs_k (by decide)]; exact e3, hs_s, fr.trans FMx.s4⟩)
          | (rw [if_pos (by omega)]; exact ⟨rfl, by rw [hs_k (by decide), hs_k (by decide)]; exact e3, by rw [hs_s]; omega, (fr.trans FMx.s4).trans FMx.s4⟩)
      · show jT _ _ 195 _ _ _ _
        refine tl_aload_n rfl rfl ?_
        refine tl_dup rfl rfl ?_
        show jT _ _ 197 _ _ _ _
        refine tl_geti (c := 7) (k9 := 4) rfl rfl rfl ?_
        rw [hs_s]
        refine tl_iconst rfl ?_
        refine tl_iadd rfl ?_
        refine tl_puti (c := 7) (k9 := 4) rfl rfl rfl rfl ?_
        refine tl_ret rfl ?_
        -- leaf 1 at 205
        have e : te B N (skw B N p) = if (skw B N p) < N then (skw B N p) + 1 else (skw B N p) := by rw [te, if_neg (by rw [el]; decide), if_neg (by rw [ed]; decide)]
        rw [e]
        first
          | (rw [if_neg (by omega)]; exact ⟨rfl, by rw [hs_k (by decide)]; exact e3, hs_s, fr.trans FMx.s4⟩)
          | (rw [if_pos (by omega)]; exact ⟨rfl, by rw [hs_k (by decide), hs_k (by decide)]; exact e3, by rw [hs_s]; omega, (fr.trans FMx.s4).trans FMx.s4⟩)
    · show jT _ _ 137 _ _ _ _
      have ed := zb1' c2
      show jT _ _ 137 _ _ _ _
      -- leaf 2 at 137
      have e : te B N (skw B N p) = spn B dt9 (N - (skw B N p)) (skw B N p) := by rw [te, if_neg (by rw [el]; decide), if_pos ed]
      rw [e]
      exact k_nt_C l h B N tx _ (skw B N p) _ (fun m2 hj => ⟨rfl, hj.2.1, hj.2.2, hj.1⟩) _ (skw B N p) _ (Nat.lt_succ_self _) ⟨fb.2, rfl, fr.trans FMx.s4, by rw [hs_k (by decide)]; exact e3, hs_s⟩
  · show jT _ _ 76 _ _ _ _
    have el := zb1' c1
    show jT _ _ 76 _ _ _ _
    -- leaf 3 at 76
    have e : te B N (skw B N p) = spn B lt9 (N - (skw B N p)) (skw B N p) := by rw [te, if_pos el]
    rw [e]
    exact k_nt_B l h B N tx _ (skw B N p) _ (fun m2 hj => ⟨rfl, hj.2.1, hj.2.2, hj.1⟩) _ (skw B N p) _ (Nat.lt_succ_self _) ⟨fb.2, rfl, fr.trans FMx.s4, by rw [hs_k (by decide)]; exact e3, hs_s⟩
theorem TK.nx {h h' : jH} {B : Nat → Int} {N f : Nat} (k : TK h B N f) (e3 : h' 362 3 = (skw B N (te B N f) : Int)) (e4 : h' 362 4 = (te B N (skw B N (te B N f)) : Int)) (fr : FN h h') : TK h' B N (nx B N f) := ⟨k.1.of fr, e3, e4, (nx_b k.2.2.2).2.1⟩
def st9 (B : Nat → Int) (N f : Nat) (b : Bool) : Nat := if b = true then nx B N f else f
theorem st9_t {B : Nat → Int} {N f : Nat} {b : Bool} (h : b = true) : st9 B N f b = nx B N f := by rw [st9, if_pos h]
theorem st9_f {B : Nat → Int} {N f : Nat} {b : Bool} (h : b = false) : st9 B N f b = f := by rw [st9, if_neg (by rw [h]; decide)]
set_option maxRecDepth 20000 in
set_option maxHeartbeats 1000000 in
theorem k_isSgn (l : Launch) (h : jH) (B : Nat → Int) (N f : Nat) (tk : TK h B N f) (c : Int) (c0 : 0 ≤ c) (c1 : c ≤ 255) : cI l 91 [.ref 362, .int (jI c)] h (fun z h' => z = zb (sg B N f c) ∧ TK h' B N (st9 B N f (sg B N f c)) ∧ FN h h' ∧ h' 362 5 = h 362 5) := by
  have tx := tk.1
  have e3 := tk.2.1
  have e4 := tk.2.2.1
  have fN := tk.2.2.2
  have n400 := tx.2.2.1
  have tb := te_b (B := B) fN
  have gb := gt9_r (B := B) (N := N) (i := f) tx.2.2.2
  refine cI.ofZ rfl rfl ?_
  refine tl_aload_n rfl rfl ?_
  refine tl_getr (c := 7) (k9 := 2) (b := 363) rfl rfl rfl rfl ?_
  refine tl_aload_n rfl rfl ?_
  refine tl_geti (c := 7) (k9 := 3) rfl rfl rfl ?_
  rw [e3]
  refine tl_v1i (c9 := 8) (k_tget l h B N tx (f) (by omega)) rfl rfl rfl rfl rfl (Nat.le_of_ble_eq_true rfl) (fun z1 h1 p1 => ?_)
  obtain ⟨q1, rfl⟩ := p1
  have q1 := q1.symm
  subst q1
  refine tl_iload_n rfl rfl ?_
  show jT _ _ 12 _ _ _ _
  refine tl_icmp_eq (tgt := 17) rfl rfl ⟨by omega, by omega⟩ ⟨by omega, by omega⟩ (fun c1 => ?_) (fun c1 => ?_)
  · skip
    refine tl_aload_n rfl rfl ?_
    refine tl_v0v (c9 := 7) (k_nextTok l _ B N tx (te B N f) tb.2.1 e4) rfl rfl rfl rfl rfl (Nat.le_of_ble_eq_true rfl) (fun h2 p2 => ?_)
    obtain ⟨a3, a4, fm2⟩ := p2
    have fr2 := fm2.fn
    have a5 := fm2.2 5 (by decide) (by decide)
    refine tl_iconst rfl ?_
    refine tl_iret rfl ?_
    -- leaf 0 at 22
    have e : sg B N f c = true := by unfold sg; exact decide_eq_true (by omega)
    rw [e, st9_t rfl]
    exact ⟨1, rfl, Or.inr rfl, rfl, tk.nx a3 a4 fr2, fr2, a5⟩
  · show jT _ _ 15 _ _ _ _
    refine tl_iconst rfl ?_
    refine tl_iret rfl ?_
    -- leaf 1 at 16
    have e : sg B N f c = false := by unfold sg; exact decide_eq_false (by omega)
    rw [e, st9_f rfl]
    exact ⟨0, rfl, Or.inl rfl, rfl, tk, FN.rfl9, rfl⟩
theorem sI_b : ∀ k, k < 13 → ∀ i, i < (sI k).length → 0 ≤ (sI k).getD i 0 ∧ (sI k).getD i 0 ≤ 255 := by decide +kernel
theorem sI_n : ∀ k, k < 13 → (sI k).length ≤ 10 := by decide +kernel
set_option maxRecDepth 20000 in
set_option maxHeartbeats 1000000 in
theorem k_iw_lp (l : Launch) (h : jH) (B : Nat → Int) (N f : Nat) (tk : TK h B N f) (k : Nat) (hk9 : k < 13) (hl : te B N f - f = (sI k).length) (P : Option Value → jH → Prop) (h0 : ¬ (∀ i, i < (sI k).length → gt9 B N (f + i) = (sI k).getD i 0) → P (some (.int (jI 0))) h) (h1 : (∀ i, i < (sI k).length → gt9 B N (f + i) = (sI k).getD i 0) → jT l 90 57 [some (.ref 362), some (.ref (2000000 + k)), some (.int (jI (((sI k).length : Int))))] [] h P) : ∀ (m : Nat) (i : Nat), (sI k).length - i < m → (i ≤ (sI k).length ∧ ∀ q, q < i → gt9 B N (f + q) = (sI k).getD q 0) → jT l 90 20 [some (.ref 362), some (.ref (2000000 + k)), some (.int (jI ((i : Int))))] [] h P := by
  have tx := tk.1
  have e3 := tk.2.1
  have e4 := tk.2.2.1
  have fN := tk.2.2.2
  have n400 := tx.2.2.1
  have tb := te_b (B := B) fN
  have gb := gt9_r (B := B) (N := N) (i := f) tx.2.2.2
  intro m
  induction m with
  | zero => intro i hk; omega
  | succ m ih =>
    intro i hk hi
    obtain ⟨i0, i1⟩ := hi
    have gi := gt9_r (B := B) (N := N) (i := f + i) tx.2.2.2
    have sv : (sI k).length ≤ i ∨ (0 ≤ (sI k).getD i 0 ∧ (sI k).getD i 0 ≤ 255) := by
      by_cases c : i < (sI k).length
      · exact Or.inr (sI_b k hk9 i c)
      · exact Or.inl (by omega)
    refine tl_iload_n rfl rfl ?_
    refine tl_aload_n rfl rfl ?_
    refine tl_slen rfl hk9 rfl (Nat.le_of_ble_eq_true rfl) ?_
    refine tl_icmp_ge (tgt := 57) rfl rfl ⟨by omega, by omega⟩ ⟨by omega, by omega⟩ (fun c1 => ?_) (fun c1 => ?_)
    · skip
      show jT _ _ 57 _ _ _ _
      -- leaf 0 at 57
      have e : i = (sI k).length := by omega
      subst e
      exact h1 i1
    · show jT _ _ 28 _ _ _ _
      refine tl_aload_n rfl rfl ?_
      refine tl_getr (c := 7) (k9 := 2) (b := 363) rfl rfl rfl rfl ?_
      show jT _ _ 32 _ _ _ _
      refine tl_aload_n rfl rfl ?_
      refine tl_geti (c := 7) (k9 := 3) rfl rfl rfl ?_
      rw [e3]
      refine tl_iload_n rfl rfl ?_
      refine tl_iadd rfl ?_
      rw [show (f : Int) + (i : Int) = ((f + i : Nat) : Int) by omega]
      refine tl_v1i (c9 := 8) (k_tget l h B N tx (f + i) (by omega)) rfl rfl rfl rfl rfl (Nat.le_of_ble_eq_true rfl) (fun z1 h1 p1 => ?_)
      obtain ⟨q1, rfl⟩ := p1
      have q1 := q1.symm
      subst q1
      refine tl_aload_n rfl rfl ?_
      refine tl_iload_n rfl rfl ?_
      show jT _ _ 43 _ _ _ _
      refine tl_schr rfl hk9 rfl (by omega) (Nat.le_of_ble_eq_true rfl) ?_
      refine tl_icmp_eq (tgt := 51) rfl rfl ⟨by omega, by omega⟩ ⟨by omega, by omega⟩ (fun c2 => ?_) (fun c2 => ?_)
      · skip
        refine tl_iinc rfl rfl rfl ?_
        refine tl_goto (tgt := 20) rfl rfl ?_
        show jT _ _ 20 _ _ _ _
        -- leaf 1 at 20
        refine ih (i + 1) (by omega) ⟨by omega, fun q hq => ?_⟩
        by_cases c : q = i
        · subst c; omega
        · exact i1 q (by omega)
      · show jT _ _ 49 _ _ _ _
        refine tl_iconst rfl ?_
        refine tl_iret rfl ?_
        -- leaf 2 at 50
        exact h0 (fun q => by have := q i (by omega); omega)
set_option maxRecDepth 20000 in
set_option maxHeartbeats 1000000 in
theorem k_isWrd (l : Launch) (h : jH) (B : Nat → Int) (N f : Nat) (tk : TK h B N f) (k : Nat) (hk9 : k < 13) : cI l 90 [.ref 362, .ref (2000000 + k)] h (fun z h' => z = zb (wd B N f k) ∧ TK h' B N (st9 B N f (wd B N f k)) ∧ FN h h' ∧ h' 362 5 = h 362 5) := by
  have tx := tk.1
  have e3 := tk.2.1
  have e4 := tk.2.2.1
  have fN := tk.2.2.2
  have n400 := tx.2.2.1
  have tb := te_b (B := B) fN
  have gb := gt9_r (B := B) (N := N) (i := f) tx.2.2.2
  have s10 := sI_n k hk9
  refine cI.ofZ rfl rfl ?_
  refine tl_aload_n rfl rfl ?_
  refine tl_geti (c := 7) (k9 := 4) rfl rfl rfl ?_
  rw [e4]
  refine tl_aload_n rfl rfl ?_
  refine tl_geti (c := 7) (k9 := 3) rfl rfl rfl ?_
  rw [e3]
  refine tl_isub rfl ?_
  refine tl_aload_n rfl rfl ?_
  show jT _ _ 10 _ _ _ _
  refine tl_slen rfl hk9 rfl (Nat.le_of_ble_eq_true rfl) ?_
  refine tl_icmp_eq (tgt := 18) rfl rfl ⟨by omega, by omega⟩ ⟨by omega, by omega⟩ (fun c1 => ?_) (fun c1 => ?_)
  · skip
    refine tl_iconst rfl ?_
    refine tl_istore_n rfl (Nat.le_of_ble_eq_true rfl) rfl ?_
    show jT _ _ 20 _ _ _ _
    -- leaf 0 at 20
    refine k_iw_lp l h B N f tk k hk9 (by omega) _ (fun q9 => ?_) (fun q => ?_) _ 0 (Nat.lt_succ_self _) ⟨Nat.zero_le _, fun q hq => absurd hq (Nat.not_lt_zero _)⟩
    · have e : wd B N f k = false := by unfold wd; exact decide_eq_false (fun q => q9 q.2)
      rw [e, st9_f rfl]
      exact ⟨0, rfl, Or.inl rfl, rfl, tk, FN.rfl9, rfl⟩
    · skip
      refine tl_aload_n rfl rfl ?_
      refine tl_v0v (c9 := 7) (k_nextTok l _ B N tx (te B N f) tb.2.1 e4) rfl rfl rfl rfl rfl (Nat.le_of_ble_eq_true rfl) (fun h2 p2 => ?_)
      obtain ⟨a3, a4, fm2⟩ := p2
      have fr2 := fm2.fn
      have a5 := fm2.2 5 (by decide) (by decide)
      refine tl_iconst rfl ?_
      refine tl_iret rfl ?_
      -- leaf 0 at 62
      have e : wd B N f k = true := by unfold wd; exact decide_eq_true ⟨by omega, q⟩
      rw [e, st9_t rfl]
      exact ⟨1, rfl, Or.inr rfl, rfl, tk.nx a3 a4 fr2, fr2, a5⟩
  · show jT _ _ 16 _ _ _ _
    refine tl_iconst rfl ?_
    refine tl_iret rfl ?_
    -- leaf 1 at 17
    have e : wd B N f k = false := by unfold wd; exact decide_eq_false (fun q => by omega)
    rw [e, st9_f rfl]
    exact ⟨0, rfl, Or.inl rfl, rfl, tk, FN.rfl9, rfl⟩
set_option maxRecDepth 20000 in
set_option maxHeartbeats 1000000 in
theorem k_in_lp (l : Launch) (h : jH) (B : Nat → Int) (N f : Nat) (tk : TK h B N f) (lo hi9 : Int) (hd : dt9 (gt9 B N f) = true) (P : Option Value → jH → Prop) (hx : jT l 92 66 [some (.ref 362), some (.int (jI (lo))), some (.int (jI (hi9))), some (.int (jI (nv B N f))), some (.int (jI ((te B N f : Int))))] [] h P) : ∀ (m : Nat) (i : Nat), te B N f - f - i < m → i ≤ te B N f - f → jT l 92 27 [some (.ref 362), some (.int (jI (lo))), some (.int (jI (hi9))), some (.int (jI (nF B f i))), some (.int (jI (((f + i : Nat) : Int))))] [] h P := by
  have tx := tk.1
  have e3 := tk.2.1
  have e4 := tk.2.2.1
  have fN := tk.2.2.2
  have n400 := tx.2.2.1
  have tb := te_b (B := B) fN
  have gb := gt9_r (B := B) (N := N) (i := f) tx.2.2.2
  have s2 := (srt9_2 fN).mpr hd
  have td := (te_d fN s2).2
  intro m
  induction m with
  | zero => intro i hk; omega
  | succ m ih =>
    intro i hk hi
    have nd := (ndF (B := B) (f := f) i (fun q hq => td q (by omega))).1
    have gi : te B N f - f ≤ i ∨ (i < te B N f - f ∧ gt9 B N (f + i) = B (f + i) ∧ 48 ≤ B (f + i) ∧ B (f + i) ≤ 57) := by
      by_cases c : i < te B N f - f
      · have t := dt9_t.mp (td i c)
        exact Or.inr ⟨c, gt9_i (by omega), t.1, t.2⟩
      · exact Or.inl (by omega)
    refine tl_iload rfl rfl ?_
    refine tl_aload_n rfl rfl ?_
    refine tl_geti (c := 7) (k9 := 4) rfl rfl rfl ?_
    rw [e4]
    refine tl_icmp_ge (tgt := 66) rfl rfl ⟨by omega, by omega⟩ ⟨by omega, by omega⟩ (fun c1 => ?_) (fun c1 => ?_)
    · skip
      show jT _ _ 66 _ _ _ _
      -- leaf 0 at 66
      have e : i = te B N f - f := by omega
      subst e
      rw [show ((f + (te B N f - f) : Nat) : Int) = (te B N f : Int) by omega]
      exact hx
    · show jT _ _ 36 _ _ _ _
      refine tl_iload_n rfl rfl ?_
      refine tl_bipush rfl rfl ?_
      show jT _ _ 39 _ _ _ _
      refine tl_imul rfl ?_
      refine tl_aload_n rfl rfl ?_
      refine tl_getr (c := 7) (k9 := 2) (b := 363) rfl rfl rfl rfl ?_
      refine tl_iload rfl rfl ?_
      refine tl_v1i (c9 := 8) (k_tget l h B N tx (f + i) (by omega)) rfl rfl rfl rfl rfl (Nat.le_of_ble_eq_true rfl) (fun z1 h1 p1 => ?_)
      obtain ⟨q1, rfl⟩ := p1
      have q1 := q1.symm
      subst q1
      refine tl_iadd rfl ?_
      refine tl_bipush rfl rfl ?_
      show jT _ _ 52 _ _ _ _
      refine tl_isub rfl ?_
      refine tl_sipush rfl rfl ?_
      refine tl_s2i (c_min l h _ _ ⟨by omega, by omega⟩ ⟨by omega, by omega⟩) rfl rfl rfl (Nat.le_of_ble_eq_true rfl) (fun z2 h2 p2 => ?_)
      obtain ⟨q2, rfl⟩ := p2
      have q2 := q2.symm
      subst q2
      refine tl_istore_n rfl (Nat.le_of_ble_eq_true rfl) rfl ?_
      refine tl_iinc rfl rfl rfl ?_
      refine tl_goto (tgt := 27) rfl rfl ?_
      show jT _ _ 27 _ _ _ _
      -- leaf 1 at 27
      have e : min (nF B f i * 10 + gt9 B N (f + i) - 48) 1000 = nF B f (i + 1) := by rw [nF, show gt9 B N (f + i) = B (f + i) by omega]
      rw [e, show ((f + i : Nat) : Int) + 1 = ((f + (i + 1) : Nat) : Int) by omega]
      exact ih (i + 1) (by omega) (by omega)
set_option maxRecDepth 20000 in
set_option maxHeartbeats 1000000 in
theorem k_isNum (l : Launch) (h : jH) (B : Nat → Int) (N f : Nat) (tk : TK h B N f) (lo hi9 : Int) (l0 : 0 ≤ lo) (l1 : lo ≤ 999) (h90 : 0 ≤ hi9) (h91 : hi9 ≤ 999) : cI l 92 [.ref 362, .int (jI lo), .int (jI hi9)] h (fun z h' => z = zb (nb B N f lo hi9) ∧ TK h' B N (st9 B N f (nb B N f lo hi9)) ∧ FN h h' ∧ (nb B N f lo hi9 = true → h' 362 5 = nv B N f)) := by
  have tx := tk.1
  have e3 := tk.2.1
  have e4 := tk.2.2.1
  have fN := tk.2.2.2
  have n400 := tx.2.2.1
  have tb := te_b (B := B) fN
  have gb := gt9_r (B := B) (N := N) (i := f) tx.2.2.2
  refine cI.ofZ rfl rfl ?_
  refine tl_aload_n rfl rfl ?_
  refine tl_getr (c := 7) (k9 := 2) (b := 363) rfl rfl rfl rfl ?_
  refine tl_aload_n rfl rfl ?_
  refine tl_geti (c := 7) (k9 := 3) rfl rfl rfl ?_
  rw [e3]
  refine tl_v1i (c9 := 8) (k_tget l h B N tx (f) (by omega)) rfl rfl rfl rfl rfl (Nat.le_of_ble_eq_true rfl) (fun z1 h1 p1 => ?_)
  obtain ⟨q1, rfl⟩ := p1
  have q1 := q1.symm
  subst q1
  refine tl_s1i (k_isDig l h (gt9 B N f) (by omega) (by omega)) rfl rfl rfl (Nat.le_of_ble_eq_true rfl) (fun z2 h2 p2 => ?_)
  obtain ⟨q2, rfl⟩ := p2
  have q2 := q2.symm
  subst q2
  have b2 := zb_b (dt9 (gt9 B N f))
  show jT _ _ 14 _ _ _ _
  refine tl_if_ne (tgt := 19) rfl rfl ⟨by omega, by omega⟩ (fun c1 => ?_) (fun c1 => ?_)
  · skip
    have hd := zb1 c1
    refine tl_iconst rfl ?_
    refine tl_istore_n rfl (Nat.le_of_ble_eq_true rfl) rfl ?_
    refine tl_aload_n rfl rfl ?_
    refine tl_geti (c := 7) (k9 := 3) rfl rfl rfl ?_
    rw [e3]
    refine tl_istore rfl (Nat.le_of_ble_eq_true rfl) rfl ?_
    show jT _ _ 27 _ _ _ _
    -- leaf 0 at 27
    have s2 := (srt9_2 fN).mpr hd
    have nd : 0 ≤ nv B N f ∧ nv B N f ≤ 1000 := (ndF (B := B) (f := f) _ (te_d fN s2).2).1
    refine jT.loc ?_ (k_in_lp l h B N f tk lo hi9 hd _ ?_ _ 0 (Nat.lt_succ_self _) (Nat.zero_le _))
    · rfl
    · skip
      refine tl_iload_n rfl rfl ?_
      refine tl_iload_n rfl rfl ?_
      refine tl_icmp_lt (tgt := 76) rfl rfl ⟨by omega, by omega⟩ ⟨by omega, by omega⟩ (fun c1 => ?_) (fun c1 => ?_)
      · skip
        refine tl_iconst rfl ?_
        refine tl_iret rfl ?_
        -- leaf 0 at 77
        have e : nb B N f lo hi9 = false := by unfold nb; exact decide_eq_false (fun q => by omega)
        rw [e, st9_f rfl]
        exact ⟨0, rfl, Or.inl rfl, rfl, tk, FN.rfl9, fun q => absurd q (by decide)⟩
      · show jT _ _ 71 _ _ _ _
        refine tl_iload_n rfl rfl ?_
        show jT _ _ 72 _ _ _ _
        refine tl_iload_n rfl rfl ?_
        refine tl_icmp_le (tgt := 78) rfl rfl ⟨by omega, by omega⟩ ⟨by omega, by omega⟩ (fun c2 => ?_) (fun c2 => ?_)
        · skip
          refine tl_aload_n rfl rfl ?_
          refine tl_iload_n rfl rfl ?_
          refine tl_puti (c := 7) (k9 := 5) rfl rfl rfl rfl ?_
          refine tl_aload_n rfl rfl ?_
          refine tl_v0v (c9 := 7) (k_nextTok l (hs h 362 5 (nv B N f)) B N (tx.of FN.s5) (te B N f) tb.2.1 (by rw [hs_k (by decide)]; exact e4)) rfl rfl rfl rfl rfl (Nat.le_of_ble_eq_true rfl) (fun h2 p2 => ?_)
          obtain ⟨a3, a4, fm2⟩ := p2
          have fr2 := fm2.fn
          have a5 := fm2.2 5 (by decide) (by decide)
          show jT _ _ 87 _ _ _ _
          refine tl_iconst rfl ?_
          refine tl_iret rfl ?_
          -- leaf 1 at 88
          have e : nb B N f lo hi9 = true := by unfold nb; exact decide_eq_true ⟨hd, by omega, by omega⟩
          rw [e, st9_t rfl]
          exact ⟨1, rfl, Or.inr rfl, rfl, tk.nx a3 a4 (FN.s5.trans fr2), FN.s5.trans fr2, fun _ => by rw [a5, hs_s]⟩
        · show jT _ _ 76 _ _ _ _
          refine tl_iconst rfl ?_
          refine tl_iret rfl ?_
          -- leaf 2 at 77
          have e : nb B N f lo hi9 = false := by unfold nb; exact decide_eq_false (fun q => by omega)
          rw [e, st9_f rfl]
          exact ⟨0, rfl, Or.inl rfl, rfl, tk, FN.rfl9, fun q => absurd q (by decide)⟩
  · show jT _ _ 17 _ _ _ _
    have hd := zb0' c1
    refine tl_iconst rfl ?_
    show jT _ _ 18 _ _ _ _
    refine tl_iret rfl ?_
    -- leaf 1 at 18
    have e : nb B N f lo hi9 = false := by unfold nb; exact decide_eq_false (fun q => by rw [hd] at q; exact absurd q.1 (by decide))
    rw [e, st9_f rfl]
    exact ⟨0, rfl, Or.inl rfl, rfl, tk, FN.rfl9, fun q => absurd q (by decide)⟩
