/-! a patch read: bytes and numbers -/
def rb (B : Nat → Int) (N p : Nat) : Int × Nat := if p < N then (B p, p + 1) else (-1, p)
def rn (B : Nat → Int) (N p : Nat) : Int × Nat := if (rb B N p).1 < 128 then rb B N p else if (rb B N (rb B N p).2).1 < 0 ∨ 128 ≤ (rb B N (rb B N p).2).1 then (-1, (rb B N (rb B N p).2).2) else ((rb B N p).1 - 128 + 128 * (rb B N (rb B N p).2).1, (rb B N (rb B N p).2).2)
theorem rb_t {B : Nat → Int} {N p : Nat} (h : p < N) : rb B N p = (B p, p + 1) := by rw [rb, if_pos h]
theorem rb_f {B : Nat → Int} {N p : Nat} (h : ¬ p < N) : rb B N p = (-1, p) := by rw [rb, if_neg h]
def BB (B : Nat → Int) (N : Nat) : Prop := ∀ i, i < N → byt (B i)
theorem rb_b {B : Nat → Int} {N p : Nat} (hB : BB B N) (hp : p ≤ N) : (-1 ≤ (rb B N p).1 ∧ (rb B N p).1 ≤ 255) ∧ p ≤ (rb B N p).2 ∧ (rb B N p).2 ≤ N ∧ (0 ≤ (rb B N p).1 → (rb B N p).2 = p + 1) := by
  by_cases c : p < N
  · rw [rb_t c]
    have := hB p c
    exact ⟨⟨by show -1 ≤ B p; have := this.1; omega, this.2⟩, by show p ≤ p + 1; omega, by show p + 1 ≤ N; omega, fun _ => rfl⟩
  · rw [rb_f c]
    exact ⟨⟨Int.le_refl _, by show (-1 : Int) ≤ 255; omega⟩, Nat.le_refl _, hp, fun h => absurd h (by show ¬ (0 : Int) ≤ -1; omega)⟩
theorem rn_b {B : Nat → Int} {N p : Nat} (hB : BB B N) (hp : p ≤ N) : (-1 ≤ (rn B N p).1 ∧ (rn B N p).1 ≤ 16383) ∧ p ≤ (rn B N p).2 ∧ (rn B N p).2 ≤ N ∧ (0 ≤ (rn B N p).1 → p + 1 ≤ (rn B N p).2) := by
  obtain ⟨a1, a2, a3, a4⟩ := rb_b hB hp
  obtain ⟨b1, b2, b3, b4⟩ := rb_b hB a3
  rw [rn]
  by_cases c : (rb B N p).1 < 128
  · rw [if_pos c]; exact ⟨by omega, a2, a3, fun h => by have := a4 h; omega⟩
  · rw [if_neg c]
    have a5 := a4 (by omega)
    by_cases d : (rb B N (rb B N p).2).1 < 0 ∨ 128 ≤ (rb B N (rb B N p).2).1
    · rw [if_pos d]
      exact ⟨⟨Int.le_refl _, by show (-1 : Int) ≤ 16383; omega⟩, by show p ≤ _; omega, b3, fun h => absurd h (by show ¬ (0 : Int) ≤ -1; omega)⟩
    · rw [if_neg d]
      exact ⟨⟨by show -1 ≤ (rb B N p).1 - 128 + 128 * _; omega, by show (rb B N p).1 - 128 + 128 * _ ≤ 16383; omega⟩, by show p ≤ _; omega, b3, fun _ => by show p + 1 ≤ _; omega⟩
/-- the reader of the walked file at p of N bytes -/
def RDK (h : jH) (B : Nat → Int) (N p : Nat) : Prop := h 339 16 = (p : Int) ∧ h 339 17 = (N : Int) ∧ (∀ i, i < N → h 351 i = B i) ∧ BB B N ∧ N ≤ 298 ∧ p ≤ N
def FK (h h' : jH) : Prop := (∀ x, x ≠ 339 → h' x = h x) ∧ ∀ q, q ≠ 16 → h' 339 q = h 339 q
theorem FK.rfl' {h : jH} : FK h h := ⟨fun _ _ => rfl, fun _ _ => rfl⟩
theorem FK.trans {a b c : jH} (h1 : FK a b) (h2 : FK b c) : FK a c := ⟨fun x hx => (h2.1 x hx).trans (h1.1 x hx), fun q hq => (h2.2 q hq).trans (h1.2 q hq)⟩
theorem RDK.at' {h h' : jH} {B : Nat → Int} {N p : Nat} (k : RDK h B N p) (e : ∀ q, q = 16 ∨ q = 17 → h' 339 q = h 339 q) (e2 : h' 351 = h 351) : RDK h' B N p := ⟨by rw [e 16 (by omega)]; exact k.1, by rw [e 17 (by omega)]; exact k.2.1, by rw [e2]; exact k.2.2.1, k.2.2.2⟩
set_option maxRecDepth 20000 in
set_option maxHeartbeats 1000000 in
theorem k_nextByte (l : Launch) (h : jH) (B : Nat → Int) (N p : Nat) (k : RDK h B N p) : cI l 68 [.ref 339] h (fun z h' => z = (rb B N p).1 ∧ RDK h' B N (rb B N p).2 ∧ FK h h') := by
  obtain ⟨k1, k2, k3, k4, k5, k6⟩ := k
  refine cI.of rfl rfl ?_
  refine tl_aload_n rfl rfl ?_
  refine tl_geti (c := 6) (k9 := 16) rfl rfl rfl ?_
  rw [k1]
  refine tl_if_lt (tgt := 33) rfl rfl ⟨by omega, by omega⟩ (fun c1 => ?_) (fun c1 => ?_)
  · skip
    refine tl_iconst rfl ?_
    refine tl_iret rfl ?_
    -- leaf 0 at 34
    first
      | (exfalso; omega)
      | (refine ⟨_, rfl, ?_, ?_, FK.rfl'⟩
         · rw [rb_f (by omega)]
         · rw [rb_f (by omega)]; exact ⟨k1, k2, k3, k4, k5, k6⟩)
  · show jT _ _ 7 _ _ _ _
    refine tl_aload_n rfl rfl ?_
    show jT _ _ 8 _ _ _ _
    refine tl_geti (c := 6) (k9 := 16) rfl rfl rfl ?_
    rw [k1]
    refine tl_aload_n rfl rfl ?_
    refine tl_geti (c := 6) (k9 := 17) rfl rfl rfl ?_
    rw [k2]
    refine tl_icmp_ge (tgt := 33) rfl rfl ⟨by omega, by omega⟩ ⟨by omega, by omega⟩ (fun c2 => ?_) (fun c2 => ?_)
    · skip
      refine tl_iconst rfl ?_
      refine tl_iret rfl ?_
      -- leaf 1 at 34
      first
        | (exfalso; omega)
        | (refine ⟨_, rfl, ?_, ?_, FK.rfl'⟩
           · rw [rb_f (by omega)]
           · rw [rb_f (by omega)]; exact ⟨k1, k2, k3, k4, k5, k6⟩)
    · show jT _ _ 18 _ _ _ _
      refine tl_aload_n rfl rfl ?_
      show jT _ _ 19 _ _ _ _
      refine tl_geti (c := 6) (k9 := 16) rfl rfl rfl ?_
      rw [k1]
      refine tl_aload_n rfl rfl ?_
      refine tl_getr (c := 6) (k9 := 12) (b := 350) rfl rfl rfl rfl ?_
      refine tl_getr (c := 8) (k9 := 0) (b := 351) rfl rfl rfl rfl ?_
      refine tl_alen (n := 300) rfl (Or.inl rfl) rfl ?_
      refine tl_icmp_lt (tgt := 35) rfl rfl ⟨by omega, by omega⟩ ⟨by omega, by omega⟩ (fun c3 => ?_) (fun c3 => ?_)
      · skip
        refine tl_aload_n rfl rfl ?_
        show jT _ _ 36 _ _ _ _
        refine tl_dup rfl rfl ?_
        refine tl_geti (c := 6) (k9 := 16) rfl rfl rfl ?_
        rw [k1]
        refine tl_iconst rfl ?_
        refine tl_iadd rfl ?_
        refine tl_puti (c := 6) (k9 := 16) rfl rfl rfl rfl ?_
        refine tl_aload_n rfl rfl ?_
        refine tl_getr (c := 6) (k9 := 12) (b := 350) rfl rfl rfl rfl ?_
        show jT _ _ 49 _ _ _ _
        refine tl_getr (c := 8) (k9 := 0) (b := 351) rfl rfl rfl rfl ?_
        refine tl_aload_n rfl rfl ?_
        refine tl_geti (c := 6) (k9 := 16) rfl rfl rfl ?_
        rw [hs_s]
        refine tl_iconst rfl ?_
        refine tl_isub rfl ?_
        refine tl_iald (n := 300) rfl rfl rfl (by omega) (by omega) ?_
        rw [hs_o (by decide), show ((p : Int) + 1 - 1).toNat = p by omega, k3 p (by omega)]
        refine tl_iret rfl ?_
        -- leaf 2 at 59
        refine ⟨_, rfl, ?_, ?_, fun x hx => hs_O hx, fun q hq => hs_k hq⟩
        · rw [rb_t (by omega)]
        · rw [rb_t (by omega)]
          exact ⟨hs_s.trans (by show (p : Int) + 1 = ((p + 1 : Nat) : Int); omega), by rw [hs_k (by decide)]; exact k2, fun i hi => by rw [hs_o (by decide)]; exact k3 i hi, k4, k5, by show p + 1 ≤ N; omega⟩
      · show jT _ _ 33 _ _ _ _
        show jT _ _ 33 _ _ _ _
        refine tl_iconst rfl ?_
        refine tl_iret rfl ?_
        -- leaf 3 at 34
        first
          | (exfalso; omega)
          | (refine ⟨_, rfl, ?_, ?_, FK.rfl'⟩
             · rw [rb_f (by omega)]
             · rw [rb_f (by omega)]; exact ⟨k1, k2, k3, k4, k5, k6⟩)
set_option maxRecDepth 20000 in
set_option maxHeartbeats 1000000 in
theorem k_nextNum (l : Launch) (h : jH) (B : Nat → Int) (N p : Nat) (k : RDK h B N p) : cI l 69 [.ref 339] h (fun z h' => z = (rn B N p).1 ∧ RDK h' B N (rn B N p).2 ∧ FK h h') := by
  have hB := k.2.2.2.1
  obtain ⟨a1, a2, a3, a4⟩ := rb_b hB k.2.2.2.2.2
  obtain ⟨b1, b2, b3, b4⟩ := rb_b hB a3
  refine cI.of rfl rfl ?_
  refine tl_aload_n rfl rfl ?_
  refine tl_v0i (c9 := 6) (k_nextByte l h B N p k) rfl rfl rfl rfl rfl (Nat.le_of_ble_eq_true rfl) (fun z1 h1 p1 => ?_)
  obtain ⟨e1, k1, f1⟩ := p1
  refine tl_istore_n rfl (Nat.le_of_ble_eq_true rfl) rfl ?_
  refine tl_iload_n rfl rfl ?_
  refine tl_sipush rfl rfl ?_
  refine tl_icmp_ge (tgt := 14) rfl rfl ⟨by omega, by omega⟩ ⟨by omega, by omega⟩ (fun c1 => ?_) (fun c1 => ?_)
  · skip
    show jT _ _ 14 _ _ _ _
    refine tl_aload_n rfl rfl ?_
    refine tl_v0i (c9 := 6) (k_nextByte l h1 B N (rb B N p).2 k1) rfl rfl rfl rfl rfl (Nat.le_of_ble_eq_true rfl) (fun z2 h2 p2 => ?_)
    obtain ⟨e2, k2, f2⟩ := p2
    refine tl_istore_n rfl (Nat.le_of_ble_eq_true rfl) rfl ?_
    refine tl_iload_n rfl rfl ?_
    refine tl_if_lt (tgt := 30) rfl rfl ⟨by omega, by omega⟩ (fun c2 => ?_) (fun c2 => ?_)
    · skip
      refine tl_iconst rfl ?_
      refine tl_goto (tgt := 45) rfl rfl ?_
      show jT _ _ 45 _ _ _ _
      refine tl_iret rfl ?_
      -- leaf 0 at 45
      refine ⟨_, rfl, ?_⟩
      rw [rn, if_neg (by omega)]
      first | (rw [if_pos (by omega)]; exact ⟨rfl, k2, f1.trans f2⟩) | (rw [if_neg (by omega), e1, e2]; exact ⟨rfl, k2, f1.trans f2⟩)
    · show jT _ _ 23 _ _ _ _
      refine tl_iload_n rfl rfl ?_
      refine tl_sipush rfl rfl ?_
      refine tl_icmp_lt (tgt := 34) rfl rfl ⟨by omega, by omega⟩ ⟨by omega, by omega⟩ (fun c3 => ?_) (fun c3 => ?_)
      · skip
        refine tl_iload_n rfl rfl ?_
        refine tl_sipush rfl rfl ?_
        refine tl_isub rfl ?_
        show jT _ _ 39 _ _ _ _
        refine tl_sipush rfl rfl ?_
        refine tl_iload_n rfl rfl ?_
        refine tl_imul rfl ?_
        refine tl_iadd rfl ?_
        refine tl_iret rfl ?_
        -- leaf 1 at 45
        refine ⟨_, rfl, ?_⟩
        rw [rn, if_neg (by omega)]
        first | (rw [if_pos (by omega)]; exact ⟨rfl, k2, f1.trans f2⟩) | (rw [if_neg (by omega), e1, e2]; exact ⟨rfl, k2, f1.trans f2⟩)
      · show jT _ _ 30 _ _ _ _
        refine tl_iconst rfl ?_
        refine tl_goto (tgt := 45) rfl rfl ?_
        show jT _ _ 45 _ _ _ _
        refine tl_iret rfl ?_
        -- leaf 2 at 45
        refine ⟨_, rfl, ?_⟩
        rw [rn, if_neg (by omega)]
        first | (rw [if_pos (by omega)]; exact ⟨rfl, k2, f1.trans f2⟩) | (rw [if_neg (by omega), e1, e2]; exact ⟨rfl, k2, f1.trans f2⟩)
  · show jT _ _ 12 _ _ _ _
    refine tl_iload_n rfl rfl ?_
    refine tl_iret rfl ?_
    -- leaf 3 at 13
    refine ⟨_, rfl, ?_⟩
    rw [rn, if_pos (by omega)]
    exact ⟨e1, k1, f1⟩
/-- the reference's reading: a value, a place, a flaw -/
def rbR (B : Nat → Int) (N p : Nat) (f : Int) : Int × Nat × Int := if f = 0 then (if p < N then (B p, p + 1, 0) else (0, p, 3)) else (0, p, f)
def rnR (B : Nat → Int) (N p : Nat) (f : Int) : Int × Nat × Int := if (rbR B N p f).1 < 128 then rbR B N p f else ((rbR B N p f).1 - 128 + 128 * (rbR B N (rbR B N p f).2.1 (rbR B N p f).2.2).1, (rbR B N (rbR B N p f).2.1 (rbR B N p f).2.2).2.1, if (rbR B N (rbR B N p f).2.1 (rbR B N p f).2.2).2.2 = 0 ∧ 127 < (rbR B N (rbR B N p f).2.1 (rbR B N p f).2.2).1 then 3 else (rbR B N (rbR B N p f).2.1 (rbR B N p f).2.2).2.2)
def RDR (h : jH) (B : Nat → Int) (N p : Nat) (f : Int) : Prop := h 388 32 = (p : Int) ∧ h 388 31 = (N : Int) ∧ h 388 33 = f ∧ (∀ i, i < N → h 407 i = B i) ∧ BB B N ∧ N ≤ 298 ∧ p ≤ N ∧ 0 ≤ f ∧ f ≤ 7
def FRd (h h' : jH) : Prop := (∀ x, x ≠ 388 → h' x = h x) ∧ ∀ q, q ≠ 32 → q ≠ 33 → h' 388 q = h 388 q
theorem FRd.rfl' {h : jH} : FRd h h := ⟨fun _ _ => rfl, fun _ _ _ => rfl⟩
theorem FRd.trans {a b c : jH} (h1 : FRd a b) (h2 : FRd b c) : FRd a c := ⟨fun x hx => (h2.1 x hx).trans (h1.1 x hx), fun q hq hq2 => (h2.2 q hq hq2).trans (h1.2 q hq hq2)⟩
theorem RDR.fl {h : jH} {B : Nat → Int} {N p : Nat} {f f' : Int} (k : RDR h B N p f) (f0 : 0 ≤ f') (f7 : f' ≤ 7) : RDR (hs h 388 33 f') B N p f' ∧ FRd h (hs h 388 33 f') := by
  obtain ⟨k1, k2, k3, k4, k5, k6, k7, k8, k9⟩ := k
  exact ⟨⟨by rw [hs_k (by decide)]; exact k1, by rw [hs_k (by decide)]; exact k2, hs_s, fun i hi => by rw [hs_o (by decide)]; exact k4 i hi, k5, k6, k7, f0, f7⟩, fun x hx => hs_O hx, fun q hq hq2 => hs_k hq2⟩
theorem rbR_z {B : Nat → Int} {N p : Nat} {f : Int} (h : f ≠ 0) : rbR B N p f = (0, p, f) := by rw [rbR, if_neg h]
theorem rbR_t {B : Nat → Int} {N p : Nat} (h : p < N) : rbR B N p 0 = (B p, p + 1, 0) := by rw [rbR, if_pos rfl, if_pos h]
theorem rbR_f {B : Nat → Int} {N p : Nat} (h : ¬ p < N) : rbR B N p 0 = (0, p, 3) := by rw [rbR, if_pos rfl, if_neg h]
theorem rnR_z {B : Nat → Int} {N p : Nat} {f : Int} (h : f ≠ 0) : rnR B N p f = (0, p, f) := by rw [rnR, rbR_z h, if_pos (by show (0 : Int) < 128; omega)]
/-- both readings of a number side by side -/
theorem rnR_e {B : Nat → Int} {N p : Nat} (hB : BB B N) (hp : p ≤ N) : (0 ≤ (rn B N p).1 → rnR B N p 0 = ((rn B N p).1, (rn B N p).2, 0)) ∧ ((rn B N p).1 < 0 → (rnR B N p 0).2.2 = 3) := by
  by_cases c : p < N
  · have b1 := hB p c
    by_cases d : B p < 128
    · rw [rn, rnR, rb_t c, rbR_t c, if_pos d, if_pos d]
      exact ⟨fun _ => rfl, fun h => absurd h (by show ¬ B p < 0; have := b1.1; omega)⟩
    · rw [rn, rnR, rb_t c, rbR_t c, if_neg d, if_neg d]
      show (0 ≤ (if (rb B N (p + 1)).1 < 0 ∨ 128 ≤ (rb B N (p + 1)).1 then ((-1 : Int), (rb B N (p + 1)).2) else (B p - 128 + 128 * (rb B N (p + 1)).1, (rb B N (p + 1)).2)).1 → (B p - 128 + 128 * (rbR B N (p + 1) 0).1, (rbR B N (p + 1) 0).2.1, if (rbR B N (p + 1) 0).2.2 = 0 ∧ 127 < (rbR B N (p + 1) 0).1 then (3 : Int) else (rbR B N (p + 1) 0).2.2) = _) ∧ (_ → (if (rbR B N (p + 1) 0).2.2 = 0 ∧ 127 < (rbR B N (p + 1) 0).1 then (3 : Int) else (rbR B N (p + 1) 0).2.2) = 3)
      by_cases c2 : p + 1 < N
      · have b2 := hB (p + 1) c2
        rw [rb_t c2, rbR_t c2]
        by_cases e : B (p + 1) < 0 ∨ 128 ≤ B (p + 1)
        · rw [if_pos e]
          have := b2.1
          exact ⟨fun h => absurd h (by show ¬ (0 : Int) ≤ -1; omega), fun _ => if_pos ⟨rfl, by show 127 < B (p + 1); omega⟩⟩
        · rw [if_neg e]
          refine ⟨fun _ => ?_, fun h => absurd h (by show ¬ B p - 128 + 128 * B (p + 1) < 0; omega)⟩
          rw [if_neg (by show ¬ ((0 : Int) = 0 ∧ 127 < B (p + 1)); omega)]
      · rw [rb_f c2, rbR_f c2]
        rw [if_pos (by show (-1 : Int) < 0 ∨ (128 : Int) ≤ -1; omega)]
        exact ⟨fun h => absurd h (by show ¬ (0 : Int) ≤ -1; omega), fun _ => if_neg (by show ¬ ((3 : Int) = 0 ∧ 127 < (0 : Int)); omega)⟩
  · rw [rn, rnR, rb_f c, rbR_f c, if_pos (by show (-1 : Int) < 128; omega), if_pos (by show (0 : Int) < 128; omega)]
    exact ⟨fun h => absurd h (by show ¬ (0 : Int) ≤ -1; omega), fun _ => rfl⟩
theorem rbR_b {B : Nat → Int} {N p : Nat} {f : Int} (hB : BB B N) (hp : p ≤ N) (f0 : 0 ≤ f ∧ f ≤ 7) : (0 ≤ (rbR B N p f).1 ∧ (rbR B N p f).1 ≤ 255) ∧ (p ≤ (rbR B N p f).2.1 ∧ (rbR B N p f).2.1 ≤ N) ∧ (0 ≤ (rbR B N p f).2.2 ∧ (rbR B N p f).2.2 ≤ 7) := by
  by_cases z : f = 0
  · subst z
    by_cases c : p < N
    · rw [rbR_t c]; exact ⟨hB p c, ⟨by show p ≤ p + 1; omega, by show p + 1 ≤ N; omega⟩, ⟨Int.le_refl _, by show (0 : Int) ≤ 7; omega⟩⟩
    · rw [rbR_f c]; exact ⟨⟨Int.le_refl _, by show (0 : Int) ≤ 255; omega⟩, ⟨Nat.le_refl _, hp⟩, ⟨by show (0 : Int) ≤ 3; omega, by show (3 : Int) ≤ 7; omega⟩⟩
  · rw [rbR_z z]; exact ⟨⟨Int.le_refl _, by show (0 : Int) ≤ 255; omega⟩, ⟨Nat.le_refl _, hp⟩, f0⟩
set_option maxRecDepth 20000 in
set_option maxHeartbeats 1000000 in
theorem r_fails (l : Launch) (h : jH) (B : Nat → Int) (N p : Nat) (f : Int) (k : RDR h B N p f) (so why : Int) (s01 : so = 0 ∨ so = 1) (w0 : 0 ≤ why) (w7 : why ≤ 7) : cV l 275 [.ref 388, .int (jI so), .int (jI why)] h (fun h' => RDR h' B N p (if f = 0 ∧ so = 1 then why else f) ∧ FRd h h') := by
  have k3 := k.2.2.1
  have k8 := k.2.2.2.2.2.2.2
  refine cV.of rfl rfl ?_
  refine tl_aload_n rfl rfl ?_
  refine tl_aload_n rfl rfl ?_
  refine tl_geti (c := 12) (k9 := 33) rfl rfl rfl ?_
  rw [k3]
  refine tl_if_ne (tgt := 16) rfl rfl ⟨by omega, by omega⟩ (fun c1 => ?_) (fun c1 => ?_)
  · skip
    refine tl_aload_n rfl rfl ?_
    refine tl_geti (c := 12) (k9 := 33) rfl rfl rfl ?_
    rw [k3]
    show jT _ _ 20 _ _ _ _
    refine tl_puti (c := 12) (k9 := 33) rfl rfl rfl rfl ?_
    refine tl_ret rfl ?_
    -- leaf 0 at 23
    first | (rw [if_pos (by omega)]; exact ⟨rfl, k.fl w0 w7⟩) | (rw [if_neg (by omega)]; exact ⟨rfl, k.fl k8.1 k8.2⟩)
  · show jT _ _ 8 _ _ _ _
    refine tl_iload_n rfl rfl ?_
    refine tl_if_eq (tgt := 16) rfl rfl ⟨by omega, by omega⟩ (fun c2 => ?_) (fun c2 => ?_)
    · skip
      refine tl_aload_n rfl rfl ?_
      refine tl_geti (c := 12) (k9 := 33) rfl rfl rfl ?_
      rw [k3]
      refine tl_puti (c := 12) (k9 := 33) rfl rfl rfl rfl ?_
      show jT _ _ 23 _ _ _ _
      refine tl_ret rfl ?_
      -- leaf 1 at 23
      first | (rw [if_pos (by omega)]; exact ⟨rfl, k.fl w0 w7⟩) | (rw [if_neg (by omega)]; exact ⟨rfl, k.fl k8.1 k8.2⟩)
    · show jT _ _ 12 _ _ _ _
      refine tl_iload_n rfl rfl ?_
      refine tl_goto (tgt := 20) rfl rfl ?_
      refine tl_puti (c := 12) (k9 := 33) rfl rfl rfl rfl ?_
      refine tl_ret rfl ?_
      -- leaf 2 at 23
      first | (rw [if_pos (by omega)]; exact ⟨rfl, k.fl w0 w7⟩) | (rw [if_neg (by omega)]; exact ⟨rfl, k.fl k8.1 k8.2⟩)
set_option maxRecDepth 20000 in
set_option maxHeartbeats 1000000 in
theorem r_nextByte (l : Launch) (h : jH) (B : Nat → Int) (N p : Nat) (f : Int) (k : RDR h B N p f) : cI l 276 [.ref 388] h (fun z h' => z = (rbR B N p f).1 ∧ RDR h' B N (rbR B N p f).2.1 (rbR B N p f).2.2 ∧ FRd h h') := by
  have kp := k.2.2.2.2.2.2
  have kN := k.2.2.2.2.2.1
  refine cI.of rfl rfl ?_
  refine tl_aload_n rfl rfl ?_
  refine tl_aload_n rfl rfl ?_
  refine tl_geti (c := 12) (k9 := 32) rfl rfl rfl ?_
  rw [k.1]
  refine tl_aload_n rfl rfl ?_
  refine tl_geti (c := 12) (k9 := 31) rfl rfl rfl ?_
  rw [k.2.1]
  refine tl_icmp_ne (tgt := 16) rfl rfl ⟨by omega, by omega⟩ ⟨by omega, by omega⟩ (fun c1 => ?_) (fun c1 => ?_)
  · skip
    show jT _ _ 16 _ _ _ _
    refine tl_iconst rfl ?_
    show jT _ _ 17 _ _ _ _
    -- leaf 0 at 17
    refine tl_iconst rfl ?_
    refine tl_v2v (c9 := 12) (r_fails l h B N p f k 0 3 (by omega) (by omega) (by omega)) rfl rfl rfl rfl rfl (Nat.le_of_ble_eq_true rfl) (fun h9 p9 => ?_)
    obtain ⟨k9, f9⟩ := p9
    refine tl_aload_n rfl rfl ?_
    refine tl_geti (c := 12) (k9 := 33) rfl rfl rfl ?_
    rw [k9.2.2.1]
    refine tl_if_eq (tgt := 30) rfl rfl ⟨by omega, by omega⟩ (fun c1 => ?_) (fun c1 => ?_)
    · skip
      refine tl_aload_n rfl rfl ?_
      show jT _ _ 31 _ _ _ _
      refine tl_dup rfl rfl ?_
      refine tl_geti (c := 12) (k9 := 32) rfl rfl rfl ?_
      rw [k9.1]
      refine tl_iconst rfl ?_
      refine tl_iadd rfl ?_
      refine tl_puti (c := 12) (k9 := 32) rfl rfl rfl rfl ?_
      refine tl_aload_n rfl rfl ?_
      refine tl_getr (c := 12) (k9 := 30) (b := 407) rfl rfl rfl rfl ?_
      show jT _ _ 44 _ _ _ _
      refine tl_aload_n rfl rfl ?_
      refine tl_geti (c := 12) (k9 := 32) rfl rfl rfl ?_
      rw [hs_s]
      refine tl_iconst rfl ?_
      refine tl_isub rfl ?_
      refine tl_iald (n := 300) rfl rfl rfl (by omega) (by omega) ?_
      rw [hs_o (by decide), show ((p : Int) + 1 - 1).toNat = p by omega, k9.2.2.2.1 p (by omega)]
      refine tl_iret rfl ?_
      -- leaf 0 at 51
      refine ⟨_, rfl, ?_⟩
      have z : f = 0 ∧ (if f = 0 ∧ (0 : Int) = 1 then (3 : Int) else f) = 0 := by
        by_cases z : f = 0
        · exact ⟨z, by omega⟩
        · rw [if_neg (by omega)] at *; omega
      obtain ⟨z, zz⟩ := z
      subst z
      first
        | (exfalso; rw [if_pos (by omega)] at zz; omega)
        | (rw [rbR_t (by omega)]
           rw [if_neg (by omega)] at k9
           obtain ⟨a1, a2, a3, a4, a5, a6, a7, a8, a9⟩ := k9
           exact ⟨rfl, ⟨hs_s.trans (by show (p : Int) + 1 = ((p + 1 : Nat) : Int); omega), by rw [hs_k (by decide)]; exact a2, by rw [hs_k (by decide)]; exact a3, fun i hi => by rw [hs_o (by decide)]; exact a4 i hi, a5, a6, by show p + 1 ≤ N; omega, a8, a9⟩, fun x hx => by rw [hs_O hx]; exact f9.1 x hx, fun q hq hq2 => by rw [hs_k hq]; exact f9.2 q hq hq2⟩)
    · show jT _ _ 28 _ _ _ _
      refine tl_iconst rfl ?_
      show jT _ _ 29 _ _ _ _
      refine tl_iret rfl ?_
      -- leaf 1 at 29
      refine ⟨_, rfl, ?_⟩
      by_cases z : f = 0
      · subst z
        first
          | (exfalso; rw [if_neg (by omega)] at *; omega)
          | (rw [rbR_f (by omega)]; rw [if_pos (by omega)] at k9; exact ⟨rfl, k9, f9⟩)
      · rw [rbR_z z]; rw [if_neg (by omega)] at k9; exact ⟨rfl, k9, f9⟩
  · show jT _ _ 12 _ _ _ _
    refine tl_iconst rfl ?_
    refine tl_goto (tgt := 17) rfl rfl ?_
    show jT _ _ 17 _ _ _ _
    -- leaf 1 at 17
    refine tl_iconst rfl ?_
    refine tl_v2v (c9 := 12) (r_fails l h B N p f k 1 3 (by omega) (by omega) (by omega)) rfl rfl rfl rfl rfl (Nat.le_of_ble_eq_true rfl) (fun h9 p9 => ?_)
    obtain ⟨k9, f9⟩ := p9
    refine tl_aload_n rfl rfl ?_
    refine tl_geti (c := 12) (k9 := 33) rfl rfl rfl ?_
    rw [k9.2.2.1]
    refine tl_if_eq (tgt := 30) rfl rfl ⟨by omega, by omega⟩ (fun c1 => ?_) (fun c1 => ?_)
    · skip
      refine tl_aload_n rfl rfl ?_
      show jT _ _ 31 _ _ _ _
      refine tl_dup rfl rfl ?_
      refine tl_geti (c := 12) (k9 := 32) rfl rfl rfl ?_
      rw [k9.1]
      refine tl_iconst rfl ?_
      refine tl_iadd rfl ?_
      refine tl_puti (c := 12) (k9 := 32) rfl rfl rfl rfl ?_
      refine tl_aload_n rfl rfl ?_
      refine tl_getr (c := 12) (k9 := 30) (b := 407) rfl rfl rfl rfl ?_
      show jT _ _ 44 _ _ _ _
      refine tl_aload_n rfl rfl ?_
      refine tl_geti (c := 12) (k9 := 32) rfl rfl rfl ?_
      rw [hs_s]
      refine tl_iconst rfl ?_
      refine tl_isub rfl ?_
      refine tl_iald (n := 300) rfl rfl rfl (by omega) (by omega) ?_
      rw [hs_o (by decide), show ((p : Int) + 1 - 1).toNat = p by omega, k9.2.2.2.1 p (by omega)]
      refine tl_iret rfl ?_
      -- leaf 0 at 51
      refine ⟨_, rfl, ?_⟩
      have z : f = 0 ∧ (if f = 0 ∧ (1 : Int) = 1 then (3 : Int) else f) = 0 := by
        by_cases z : f = 0
        · exact ⟨z, by omega⟩
        · rw [if_neg (by omega)] at *; omega
      obtain ⟨z, zz⟩ := z
      subst z
      first
        | (exfalso; rw [if_pos (by omega)] at zz; omega)
        | (rw [rbR_t (by omega)]
           rw [if_neg (by omega)] at k9
           obtain ⟨a1, a2, a3, a4, a5, a6, a7, a8, a9⟩ := k9
           exact ⟨rfl, ⟨hs_s.trans (by show (p : Int) + 1 = ((p + 1 : Nat) : Int); omega), by rw [hs_k (by decide)]; exact a2, by rw [hs_k (by decide)]; exact a3, fun i hi => by rw [hs_o (by decide)]; exact a4 i hi, a5, a6, by show p + 1 ≤ N; omega, a8, a9⟩, fun x hx => by rw [hs_O hx]; exact f9.1 x hx, fun q hq hq2 => by rw [hs_k hq]; exact f9.2 q hq hq2⟩)
    · show jT _ _ 28 _ _ _ _
      refine tl_iconst rfl ?_
      show jT _ _ 29 _ _ _ _
      refine tl_iret rfl ?_
      -- leaf 1 at 29
      refine ⟨_, rfl, ?_⟩
      by_cases z : f = 0
      · subst z
        first
          | (exfalso; rw [if_neg (by omega)] at *; omega)
          | (rw [rbR_f (by omega)]; rw [if_pos (by omega)] at k9; exact ⟨rfl, k9, f9⟩)
      · rw [rbR_z z]; rw [if_neg (by omega)] at k9; exact ⟨rfl, k9, f9⟩
set_option maxRecDepth 20000 in
set_option maxHeartbeats 1000000 in
theorem r_nextNum (l : Launch) (h : jH) (B : Nat → Int) (N p : Nat) (f : Int) (k : RDR h B N p f) : cI l 277 [.ref 388] h (fun z h' => z = (rnR B N p f).1 ∧ RDR h' B N (rnR B N p f).2.1 (rnR B N p f).2.2 ∧ FRd h h') := by
  have hB := k.2.2.2.2.1
  have f07 := k.2.2.2.2.2.2.2
  obtain ⟨a1, a2, a3⟩ := rbR_b hB k.2.2.2.2.2.2.1 f07
  obtain ⟨b1, b2, b3⟩ := rbR_b hB a2.2 a3
  refine cI.of rfl rfl ?_
  refine tl_aload_n rfl rfl ?_
  refine tl_v0i (c9 := 12) (r_nextByte l h B N p f k) rfl rfl rfl rfl rfl (Nat.le_of_ble_eq_true rfl) (fun z1 h1 p1 => ?_)
  obtain ⟨e1, k1, f1⟩ := p1
  refine tl_istore_n rfl (Nat.le_of_ble_eq_true rfl) rfl ?_
  refine tl_iload_n rfl rfl ?_
  refine tl_sipush rfl rfl ?_
  refine tl_icmp_ge (tgt := 14) rfl rfl ⟨by omega, by omega⟩ ⟨by omega, by omega⟩ (fun c1 => ?_) (fun c1 => ?_)
  · skip
    show jT _ _ 14 _ _ _ _
    refine tl_aload_n rfl rfl ?_
    refine tl_v0i (c9 := 12) (r_nextByte l h1 B N (rbR B N p f).2.1 (rbR B N p f).2.2 k1) rfl rfl rfl rfl rfl (Nat.le_of_ble_eq_true rfl) (fun z2 h2 p2 => ?_)
    obtain ⟨e2, k2, f2⟩ := p2
    refine tl_istore_n rfl (Nat.le_of_ble_eq_true rfl) rfl ?_
    refine tl_aload_n rfl rfl ?_
    refine tl_iload_n rfl rfl ?_
    refine tl_bipush rfl rfl ?_
    refine tl_icmp_le (tgt := 30) rfl rfl ⟨by omega, by omega⟩ ⟨by omega, by omega⟩ (fun c2 => ?_) (fun c2 => ?_)
    · skip
      show jT _ _ 30 _ _ _ _
      refine tl_iconst rfl ?_
      show jT _ _ 31 _ _ _ _
      -- leaf 0 at 31
      refine tl_iconst rfl ?_
      refine tl_v2v (c9 := 12) (r_fails l h2 B N (rbR B N (rbR B N p f).2.1 (rbR B N p f).2.2).2.1 (rbR B N (rbR B N p f).2.1 (rbR B N p f).2.2).2.2 k2 0 3 (by omega) (by omega) (by omega)) rfl rfl rfl rfl rfl (Nat.le_of_ble_eq_true rfl) (fun h9 p9 => ?_)
      obtain ⟨k9, f9⟩ := p9
      refine tl_iload_n rfl rfl ?_
      refine tl_sipush rfl rfl ?_
      refine tl_isub rfl ?_
      refine tl_sipush rfl rfl ?_
      show jT _ _ 43 _ _ _ _
      refine tl_iload_n rfl rfl ?_
      refine tl_imul rfl ?_
      refine tl_iadd rfl ?_
      refine tl_iret rfl ?_
      -- leaf 0 at 46
      refine ⟨_, rfl, ?_⟩
      rw [rnR, if_neg (by omega)]
      have eq : (if (rbR B N (rbR B N p f).2.1 (rbR B N p f).2.2).2.2 = 0 ∧ (0 : Int) = 1 then (3 : Int) else (rbR B N (rbR B N p f).2.1 (rbR B N p f).2.2).2.2) = (if (rbR B N (rbR B N p f).2.1 (rbR B N p f).2.2).2.2 = 0 ∧ 127 < (rbR B N (rbR B N p f).2.1 (rbR B N p f).2.2).1 then 3 else (rbR B N (rbR B N p f).2.1 (rbR B N p f).2.2).2.2) := by
        by_cases c : (rbR B N (rbR B N p f).2.1 (rbR B N p f).2.2).2.2 = 0
        · first | rw [if_pos (by omega), if_pos (by omega)] | rw [if_neg (by omega), if_neg (by omega)]
        · rw [if_neg (by omega), if_neg (by omega)]
      rw [eq] at k9
      exact ⟨by rw [e1, e2], k9, f1.trans (f2.trans f9)⟩
    · show jT _ _ 26 _ _ _ _
      refine tl_iconst rfl ?_
      refine tl_goto (tgt := 31) rfl rfl ?_
      show jT _ _ 31 _ _ _ _
      -- leaf 1 at 31
      refine tl_iconst rfl ?_
      refine tl_v2v (c9 := 12) (r_fails l h2 B N (rbR B N (rbR B N p f).2.1 (rbR B N p f).2.2).2.1 (rbR B N (rbR B N p f).2.1 (rbR B N p f).2.2).2.2 k2 1 3 (by omega) (by omega) (by omega)) rfl rfl rfl rfl rfl (Nat.le_of_ble_eq_true rfl) (fun h9 p9 => ?_)
      obtain ⟨k9, f9⟩ := p9
      refine tl_iload_n rfl rfl ?_
      refine tl_sipush rfl rfl ?_
      refine tl_isub rfl ?_
      refine tl_sipush rfl rfl ?_
      show jT _ _ 43 _ _ _ _
      refine tl_iload_n rfl rfl ?_
      refine tl_imul rfl ?_
      refine tl_iadd rfl ?_
      refine tl_iret rfl ?_
      -- leaf 0 at 46
      refine ⟨_, rfl, ?_⟩
      rw [rnR, if_neg (by omega)]
      have eq : (if (rbR B N (rbR B N p f).2.1 (rbR B N p f).2.2).2.2 = 0 ∧ (1 : Int) = 1 then (3 : Int) else (rbR B N (rbR B N p f).2.1 (rbR B N p f).2.2).2.2) = (if (rbR B N (rbR B N p f).2.1 (rbR B N p f).2.2).2.2 = 0 ∧ 127 < (rbR B N (rbR B N p f).2.1 (rbR B N p f).2.2).1 then 3 else (rbR B N (rbR B N p f).2.1 (rbR B N p f).2.2).2.2) := by
        by_cases c : (rbR B N (rbR B N p f).2.1 (rbR B N p f).2.2).2.2 = 0
        · first | rw [if_pos (by omega), if_pos (by omega)] | rw [if_neg (by omega), if_neg (by omega)]
        · rw [if_neg (by omega), if_neg (by omega)]
      rw [eq] at k9
      exact ⟨by rw [e1, e2], k9, f1.trans (f2.trans f9)⟩
  · show jT _ _ 12 _ _ _ _
    refine tl_iload_n rfl rfl ?_
    refine tl_iret rfl ?_
    -- leaf 2 at 13
    refine ⟨_, rfl, ?_⟩
    rw [rnR, if_pos (by omega)]
    exact ⟨e1, k1, f1⟩
