/-! a patch read as a whole, of the reference -/
def FT9 (h h' : jH) : Prop := (∀ x, x ≠ 388 → (x < 403 ∨ x = 405 ∨ x = 407 ∨ 413 < x) → h' x = h x) ∧ ∀ q, q ≠ 25 → q ≠ 29 → (q < 31 ∨ 38 < q) → h' 388 q = h 388 q
theorem FT9.rfl' {h : jH} : FT9 h h := ⟨fun _ _ _ => rfl, fun _ _ _ _ => rfl⟩
theorem FT9.trans {a b c : jH} (h1 : FT9 a b) (h2 : FT9 b c) : FT9 a c := ⟨fun x a1 a2 => (h2.1 x a1 a2).trans (h1.1 x a1 a2), fun q a1 a2 a3 => (h2.2 q a1 a2 a3).trans (h1.2 q a1 a2 a3)⟩
theorem FRd.t9 {a b : jH} (h1 : FRd a b) : FT9 a b := ⟨fun x a1 _ => h1.1 x a1, fun q _ _ a3 => h1.2 q (by omega) (by omega)⟩
theorem FP9.t9 {a b : jH} (h1 : FP9 a b) : FT9 a b := ⟨fun x a1 a2 => h1.1 x (by omega), fun q _ _ a3 => h1.2 q (by omega) (by omega) (by omega)⟩
theorem FY9.t9 {a b : jH} (h1 : FY9 a b) : FT9 a b := ⟨fun x a1 a2 => h1.1 x a1 (by omega), fun q a1 a2 a3 => h1.2 q a2 (by omega) (by omega)⟩
theorem FT9.put {h : jH} {q : Nat} {v : Int} (hq : q = 25 ∨ q = 29 ∨ (31 ≤ q ∧ q ≤ 38)) : FT9 h (hs h 388 q v) := ⟨fun x a1 _ => hs_O a1, fun p a1 a2 a3 => hs_k (by omega)⟩
theorem RDR.pt {h : jH} {B : Nat → Int} {N p : Nat} {f : Int} (k : RDR h B N p f) {q : Nat} {v : Int} (hq : q < 31 ∨ 33 < q) : RDR (hs h 388 q v) B N p f := k.at9 (fun r hr => hs_k (by omega)) (hs_O (by decide))
theorem Rok.o5 {R : Nat → Int} (ok : Rok R) : 0 ≤ R 5 ∧ R 5 ≤ 64 := ⟨ok.1, ok.2.1⟩
set_option maxRecDepth 20000 in
set_option maxHeartbeats 1000000 in
theorem r_t208 (l : Launch) (mem : jH) (B : Nat → Int) (N p : Nat) (f : Int) (k9 : RDR mem B N p f) (f9 : f ≠ 0) (sz : Int) (fo : Bool) (y3 : Option Value) (P : Option Value → jH → Prop) (hP : ∀ m2, FT9 mem m2 → P (some (.int (jI f))) m2) : jT l 289 208 [some (.ref 388), some (.int (jI (sz))), some (.int (jI (zb fo))), y3] [] mem P := by
  have k8 := k9.2.2.2.2.2.2.2
  have k7 := k9.2.2.1
  have k6 := k9.2.2.2.2.2.2.1
  have hB := k9.2.2.2.2.1
  refine tl_aload_n rfl rfl ?_
  refine tl_geti (c := 12) (k9 := 33) rfl rfl rfl ?_
  rw [k7]
  refine tl_if_eq (tgt := 220) rfl rfl ⟨by omega, by omega⟩ (fun c1 => ?_) (fun c1 => ?_)
  · skip
    show jT _ _ 220 _ _ _ _
    -- leaf 0 at 220
    exfalso; omega
  · show jT _ _ 215 _ _ _ _
    refine tl_aload_n rfl rfl ?_
    refine tl_geti (c := 12) (k9 := 33) rfl rfl rfl ?_
    rw [k7]
    refine tl_iret rfl ?_
    -- leaf 1 at 219
    exact hP _ FT9.rfl'
set_option maxRecDepth 20000 in
set_option maxHeartbeats 1000000 in
theorem r_t205 (l : Launch) (mem : jH) (B : Nat → Int) (N p : Nat) (f : Int) (k9 : RDR mem B N p f) (f9 : f ≠ 0) (sz : Int) (fo : Bool) (y3 : Option Value) (ns : Int) (hns : mem 388 36 = ns) (nb : -100000 ≤ ns ∧ ns ≤ 100000) (z : Int) (zb9 : 0 ≤ z ∧ z ≤ 40000) (P : Option Value → jH → Prop) (hP : ∀ m2, FT9 mem m2 → P (some (.int (jI f))) m2) : jT l 289 205 [some (.ref 388), some (.int (jI (sz))), some (.int (jI (zb fo))), y3] [.int (jI z), .ref 388] mem P := by
  have k8 := k9.2.2.2.2.2.2.2
  have k7 := k9.2.2.1
  have k6 := k9.2.2.2.2.2.2.1
  have hB := k9.2.2.2.2.1
  refine tl_v1v (c9 := 12) (r_readPartsZ l mem B N p f k9 f9 z ns (by omega) hns nb) rfl rfl rfl rfl rfl (Nat.le_of_ble_eq_true rfl) (fun h1 p1 => ?_)
  obtain ⟨k1, f1⟩ := p1
  show jT _ _ 208 _ _ _ _
  -- leaf 0 at 208
  exact r_t208 l h1 B N p f k1 f9 sz fo y3 P (fun m2 a => hP m2 (f1.t9.trans a))
set_option maxRecDepth 20000 in
set_option maxHeartbeats 1000000 in
theorem r_t200 (l : Launch) (mem : jH) (B : Nat → Int) (N p : Nat) (f : Int) (k9 : RDR mem B N p f) (f9 : f ≠ 0) (sz : Int) (fo : Bool) (y3 : Option Value) (ns : Int) (hns : mem 388 36 = ns) (nb : -100000 ≤ ns ∧ ns ≤ 100000) (P : Option Value → jH → Prop) (hP : ∀ m2, FT9 mem m2 → P (some (.int (jI f))) m2) : jT l 289 200 [some (.ref 388), some (.int (jI (sz))), some (.int (jI (zb fo))), y3] [] mem P := by
  have k8 := k9.2.2.2.2.2.2.2
  have k7 := k9.2.2.1
  have k6 := k9.2.2.2.2.2.2.1
  have hB := k9.2.2.2.2.1
  refine tl_aload_n rfl rfl ?_
  refine tl_aload_n rfl rfl ?_
  refine tl_v0i (c9 := 12) (r_nextNum l mem B N p f k9) rfl rfl rfl rfl rfl (Nat.le_of_ble_eq_true rfl) (fun z1 h1 p1 => ?_)
  obtain ⟨e1, k1, f1⟩ := p1
  rw [rnR_z f9] at e1 k1
  change z1 = 0 at e1
  change RDR h1 B N p f at k1
  subst e1
  show jT _ _ 205 _ _ _ _
  -- leaf 0 at 205
  exact r_t205 l h1 B N p f k1 f9 sz fo y3 ns (by rw [f1.2 36 (by decide) (by decide)]; exact hns) nb 0 (by omega) P (fun m2 a => hP m2 (f1.t9.trans a))
set_option maxRecDepth 20000 in
set_option maxHeartbeats 1000000 in
theorem r_t197 (l : Launch) (mem : jH) (B : Nat → Int) (N p : Nat) (f : Int) (k9 : RDR mem B N p f) (f9 : f ≠ 0) (sz : Int) (fo : Bool) (y3 : Option Value) (ns : Int) (hns : mem 388 36 = ns) (nb : -100000 ≤ ns ∧ ns ≤ 100000) (z : Int) (zb9 : 0 ≤ z ∧ z ≤ 40000) (P : Option Value → jH → Prop) (hP : ∀ m2, FT9 mem m2 → P (some (.int (jI f))) m2) : jT l 289 197 [some (.ref 388), some (.int (jI (sz))), some (.int (jI (zb fo))), y3] [.int (jI z), .ref 388] mem P := by
  have k8 := k9.2.2.2.2.2.2.2
  have k7 := k9.2.2.1
  have k6 := k9.2.2.2.2.2.2.1
  have hB := k9.2.2.2.2.1
  refine tl_puti (c := 12) (k9 := 37) rfl rfl rfl rfl ?_
  show jT _ _ 200 _ _ _ _
  -- leaf 0 at 200
  exact r_t200 l _ B N p f (k9.pt (by decide)) f9 sz fo y3 ns (by rw [hs_k (by decide)]; exact hns) nb P (fun m2 a => hP m2 ((FT9.put (by decide)).trans a))
set_option maxRecDepth 20000 in
set_option maxHeartbeats 1000000 in
theorem r_t192 (l : Launch) (mem : jH) (B : Nat → Int) (N p : Nat) (f : Int) (k9 : RDR mem B N p f) (f9 : f ≠ 0) (sz : Int) (fo : Bool) (y3 : Option Value) (ns : Int) (hns : mem 388 36 = ns) (nb : -100000 ≤ ns ∧ ns ≤ 100000) (P : Option Value → jH → Prop) (hP : ∀ m2, FT9 mem m2 → P (some (.int (jI f))) m2) : jT l 289 192 [some (.ref 388), some (.int (jI (sz))), some (.int (jI (zb fo))), y3] [] mem P := by
  have k8 := k9.2.2.2.2.2.2.2
  have k7 := k9.2.2.1
  have k6 := k9.2.2.2.2.2.2.1
  have hB := k9.2.2.2.2.1
  refine tl_aload_n rfl rfl ?_
  refine tl_aload_n rfl rfl ?_
  refine tl_v0i (c9 := 12) (r_nextNum l mem B N p f k9) rfl rfl rfl rfl rfl (Nat.le_of_ble_eq_true rfl) (fun z1 h1 p1 => ?_)
  obtain ⟨e1, k1, f1⟩ := p1
  rw [rnR_z f9] at e1 k1
  change z1 = 0 at e1
  change RDR h1 B N p f at k1
  subst e1
  show jT _ _ 197 _ _ _ _
  -- leaf 0 at 197
  exact r_t197 l h1 B N p f k1 f9 sz fo y3 ns (by rw [f1.2 36 (by decide) (by decide)]; exact hns) nb 0 (by omega) P (fun m2 a => hP m2 (f1.t9.trans a))
set_option maxRecDepth 20000 in
set_option maxHeartbeats 1000000 in
theorem r_t170 (l : Launch) (mem : jH) (B : Nat → Int) (N p : Nat) (f : Int) (k9 : RDR mem B N p f) (f9 : f ≠ 0) (sz : Int) (fo : Bool) (y3 : Option Value) (z : Int) (zb9 : 0 ≤ z ∧ z ≤ 40000) (P : Option Value → jH → Prop) (hP : ∀ m2, FT9 mem m2 → P (some (.int (jI f))) m2) : jT l 289 170 [some (.ref 388), some (.int (jI (sz))), some (.int (jI (zb fo))), y3] [.int (jI z), .ref 388] mem P := by
  have k8 := k9.2.2.2.2.2.2.2
  have k7 := k9.2.2.1
  have k6 := k9.2.2.2.2.2.2.1
  have hB := k9.2.2.2.2.1
  refine tl_puti (c := 12) (k9 := 36) rfl rfl rfl rfl ?_
  refine tl_aload_n rfl rfl ?_
  refine tl_aload_n rfl rfl ?_
  refine tl_geti (c := 12) (k9 := 36) rfl rfl rfl ?_
  rw [hs_s]
  refine tl_bipush rfl rfl ?_
  refine tl_icmp_le (tgt := 187) rfl rfl ⟨by omega, by omega⟩ ⟨by omega, by omega⟩ (fun c1 => ?_) (fun c1 => ?_)
  · skip
    show jT _ _ 187 _ _ _ _
    refine tl_iconst rfl ?_
    refine tl_iconst rfl ?_
    refine tl_v2v (c9 := 12) (r_fails l (hs mem 388 36 z) B N _ f (k9.pt (by decide)) _ _ (by omega) (by omega) (by omega)) rfl rfl rfl rfl rfl (Nat.le_of_ble_eq_true rfl) (fun h1 p1 => ?_)
    obtain ⟨k1, f1⟩ := p1
    rw [if_neg (by omega)] at k1
    show jT _ _ 192 _ _ _ _
    -- leaf 0 at 192
    exact r_t192 l h1 B N p f k1 f9 sz fo y3 z (by rw [f1.2 36 (by decide) (by decide), hs_s]) (by omega) P (fun m2 a => hP m2 ((FT9.put (by decide)).trans (f1.t9.trans a)))
  · show jT _ _ 183 _ _ _ _
    refine tl_iconst rfl ?_
    refine tl_goto (tgt := 188) rfl rfl ?_
    refine tl_iconst rfl ?_
    refine tl_v2v (c9 := 12) (r_fails l (hs mem 388 36 z) B N _ f (k9.pt (by decide)) _ _ (by omega) (by omega) (by omega)) rfl rfl rfl rfl rfl (Nat.le_of_ble_eq_true rfl) (fun h1 p1 => ?_)
    obtain ⟨k1, f1⟩ := p1
    rw [if_neg (by omega)] at k1
    show jT _ _ 192 _ _ _ _
    -- leaf 1 at 192
    exact r_t192 l h1 B N p f k1 f9 sz fo y3 z (by rw [f1.2 36 (by decide) (by decide), hs_s]) (by omega) P (fun m2 a => hP m2 ((FT9.put (by decide)).trans (f1.t9.trans a)))
set_option maxRecDepth 20000 in
set_option maxHeartbeats 1000000 in
theorem r_t165 (l : Launch) (mem : jH) (B : Nat → Int) (N p : Nat) (f : Int) (k9 : RDR mem B N p f) (f9 : f ≠ 0) (sz : Int) (fo : Bool) (y3 : Option Value) (P : Option Value → jH → Prop) (hP : ∀ m2, FT9 mem m2 → P (some (.int (jI f))) m2) : jT l 289 165 [some (.ref 388), some (.int (jI (sz))), some (.int (jI (zb fo))), y3] [] mem P := by
  have k8 := k9.2.2.2.2.2.2.2
  have k7 := k9.2.2.1
  have k6 := k9.2.2.2.2.2.2.1
  have hB := k9.2.2.2.2.1
  refine tl_aload_n rfl rfl ?_
  refine tl_aload_n rfl rfl ?_
  refine tl_v0i (c9 := 12) (r_nextNum l mem B N p f k9) rfl rfl rfl rfl rfl (Nat.le_of_ble_eq_true rfl) (fun z1 h1 p1 => ?_)
  obtain ⟨e1, k1, f1⟩ := p1
  rw [rnR_z f9] at e1 k1
  change z1 = 0 at e1
  change RDR h1 B N p f at k1
  subst e1
  show jT _ _ 170 _ _ _ _
  -- leaf 0 at 170
  exact r_t170 l h1 B N p f k1 f9 sz fo y3 0 (by omega) P (fun m2 a => hP m2 (f1.t9.trans a))
set_option maxRecDepth 20000 in
set_option maxHeartbeats 1000000 in
theorem r_t124 (l : Launch) (mem : jH) (B : Nat → Int) (N p : Nat) (f : Int) (k9 : RDR mem B N p f) (f9 : f ≠ 0) (sz : Int) (fo : Bool) (y3 : Option Value) (os : Int) (hos : mem 388 34 = os) (ob : -100000 ≤ os ∧ os ≤ 100000) (R : Nat → Int) (e390 : mem 390 = R) (ok : Rok R) (z : Int) (zb9 : 0 ≤ z ∧ z ≤ 40000) (P : Option Value → jH → Prop) (hP : ∀ m2, FT9 mem m2 → P (some (.int (jI f))) m2) : jT l 289 124 [some (.ref 388), some (.int (jI (sz))), some (.int (jI (zb fo))), y3] [.int (jI z), .ref 388] mem P := by
  have fb9 := zb_b fo
  have o5 := ok.o5
  have k8 := k9.2.2.2.2.2.2.2
  have k7 := k9.2.2.1
  have k6 := k9.2.2.2.2.2.2.1
  have hB := k9.2.2.2.2.1
  refine tl_puti (c := 12) (k9 := 35) rfl rfl rfl rfl ?_
  refine tl_aload_n rfl rfl ?_
  refine tl_iload_n rfl rfl ?_
  refine tl_if_eq (tgt := 160) rfl rfl ⟨by omega, by omega⟩ (fun c1 => ?_) (fun c1 => ?_)
  · skip
    refine tl_iconst rfl ?_
    refine tl_iconst rfl ?_
    show jT _ _ 162 _ _ _ _
    refine tl_v2v (c9 := 12) (r_fails l (hs mem 388 35 z) B N _ f (k9.pt (by decide)) _ _ (by omega) (by omega) (by omega)) rfl rfl rfl rfl rfl (Nat.le_of_ble_eq_true rfl) (fun h1 p1 => ?_)
    obtain ⟨k1, f1⟩ := p1
    rw [if_neg (by omega)] at k1
    show jT _ _ 165 _ _ _ _
    -- leaf 0 at 165
    exact r_t165 l h1 B N p f k1 f9 sz fo y3 P (fun m2 a => hP m2 ((FT9.put (by decide)).trans (f1.t9.trans a)))
  · show jT _ _ 132 _ _ _ _
    refine tl_aload_n rfl rfl ?_
    refine tl_geti (c := 12) (k9 := 34) rfl rfl rfl ?_
    rw [hs_k (by decide), hos]
    refine tl_aload_n rfl rfl ?_
    refine tl_iconst rfl ?_
    refine tl_v1i (c9 := 12) (c_sizeOf l _ 0 (by decide) (by decide)) rfl rfl rfl rfl rfl (Nat.le_of_ble_eq_true rfl) (fun z5 h5 p5 => ?_)
    obtain ⟨q5, rfl⟩ := p5
    have q5 := q5.symm
    subst q5
    rw [show (5 + 65 * 0 : Int).toNat = 5 from rfl]
    rw [hs_o (by decide), e390]
    refine tl_icmp_ne (tgt := 156) rfl rfl ⟨by omega, by omega⟩ ⟨by omega, by omega⟩ (fun c2 => ?_) (fun c2 => ?_)
    · skip
      show jT _ _ 156 _ _ _ _
      refine tl_iconst rfl ?_
      refine tl_goto (tgt := 161) rfl rfl ?_
      refine tl_iconst rfl ?_
      refine tl_v2v (c9 := 12) (r_fails l (hs mem 388 35 z) B N _ f (k9.pt (by decide)) _ _ (by omega) (by omega) (by omega)) rfl rfl rfl rfl rfl (Nat.le_of_ble_eq_true rfl) (fun h1 p1 => ?_)
      obtain ⟨k1, f1⟩ := p1
      rw [if_neg (by omega)] at k1
      show jT _ _ 165 _ _ _ _
      -- leaf 1 at 165
      exact r_t165 l h1 B N p f k1 f9 sz fo y3 P (fun m2 a => hP m2 ((FT9.put (by decide)).trans (f1.t9.trans a)))
    · show jT _ _ 144 _ _ _ _
      refine tl_aload_n rfl rfl ?_
      refine tl_geti (c := 12) (k9 := 35) rfl rfl rfl ?_
      rw [hs_s]
      refine tl_aload_n rfl rfl ?_
      show jT _ _ 149 _ _ _ _
      refine tl_iconst rfl ?_
      refine tl_v1i (c9 := 12) (r_fckO l (hs mem 388 35 z) R (by rw [hs_O (by decide)]; exact e390) ok) rfl rfl rfl rfl rfl (Nat.le_of_ble_eq_true rfl) (fun zc hc pc => ?_)
      obtain ⟨qc, ec⟩ := pc
      have qc := qc.symm
      subst qc
      subst ec
      have cb := ckO_b (R := R)
      refine tl_icmp_eq (tgt := 160) rfl rfl ⟨by omega, by omega⟩ ⟨by omega, by omega⟩ (fun c3 => ?_) (fun c3 => ?_)
      · skip
        refine tl_iconst rfl ?_
        refine tl_iconst rfl ?_
        refine tl_v2v (c9 := 12) (r_fails l (hs mem 388 35 z) B N _ f (k9.pt (by decide)) _ _ (by omega) (by omega) (by omega)) rfl rfl rfl rfl rfl (Nat.le_of_ble_eq_true rfl) (fun h1 p1 => ?_)
        obtain ⟨k1, f1⟩ := p1
        rw [if_neg (by omega)] at k1
        show jT _ _ 165 _ _ _ _
        -- leaf 2 at 165
        exact r_t165 l h1 B N p f k1 f9 sz fo y3 P (fun m2 a => hP m2 ((FT9.put (by decide)).trans (f1.t9.trans a)))
      · show jT _ _ 156 _ _ _ _
        refine tl_iconst rfl ?_
        show jT _ _ 157 _ _ _ _
        refine tl_goto (tgt := 161) rfl rfl ?_
        refine tl_iconst rfl ?_
        refine tl_v2v (c9 := 12) (r_fails l (hs mem 388 35 z) B N _ f (k9.pt (by decide)) _ _ (by omega) (by omega) (by omega)) rfl rfl rfl rfl rfl (Nat.le_of_ble_eq_true rfl) (fun h1 p1 => ?_)
        obtain ⟨k1, f1⟩ := p1
        rw [if_neg (by omega)] at k1
        show jT _ _ 165 _ _ _ _
        -- leaf 3 at 165
        exact r_t165 l h1 B N p f k1 f9 sz fo y3 P (fun m2 a => hP m2 ((FT9.put (by decide)).trans (f1.t9.trans a)))
set_option maxRecDepth 20000 in
set_option maxHeartbeats 1000000 in
theorem r_t119 (l : Launch) (mem : jH) (B : Nat → Int) (N p : Nat) (f : Int) (k9 : RDR mem B N p f) (f9 : f ≠ 0) (sz : Int) (fo : Bool) (y3 : Option Value) (os : Int) (hos : mem 388 34 = os) (ob : -100000 ≤ os ∧ os ≤ 100000) (R : Nat → Int) (e390 : mem 390 = R) (ok : Rok R) (P : Option Value → jH → Prop) (hP : ∀ m2, FT9 mem m2 → P (some (.int (jI f))) m2) : jT l 289 119 [some (.ref 388), some (.int (jI (sz))), some (.int (jI (zb fo))), y3] [] mem P := by
  have k8 := k9.2.2.2.2.2.2.2
  have k7 := k9.2.2.1
  have k6 := k9.2.2.2.2.2.2.1
  have hB := k9.2.2.2.2.1
  refine tl_aload_n rfl rfl ?_
  refine tl_aload_n rfl rfl ?_
  refine tl_v0i (c9 := 12) (r_nextNum l mem B N p f k9) rfl rfl rfl rfl rfl (Nat.le_of_ble_eq_true rfl) (fun z1 h1 p1 => ?_)
  obtain ⟨e1, k1, f1⟩ := p1
  rw [rnR_z f9] at e1 k1
  change z1 = 0 at e1
  change RDR h1 B N p f at k1
  subst e1
  show jT _ _ 124 _ _ _ _
  -- leaf 0 at 124
  exact r_t124 l h1 B N p f k1 f9 sz fo y3 os (by rw [f1.2 34 (by decide) (by decide)]; exact hos) ob R (by rw [f1.1 390 (by decide)]; exact e390) ok 0 (by omega) P (fun m2 a => hP m2 (f1.t9.trans a))
set_option maxRecDepth 20000 in
set_option maxHeartbeats 1000000 in
theorem r_t97 (l : Launch) (mem : jH) (B : Nat → Int) (N p : Nat) (f : Int) (k9 : RDR mem B N p f) (f9 : f ≠ 0) (sz : Int) (fo : Bool) (y3 : Option Value) (R : Nat → Int) (e390 : mem 390 = R) (ok : Rok R) (z : Int) (zb9 : 0 ≤ z ∧ z ≤ 40000) (P : Option Value → jH → Prop) (hP : ∀ m2, FT9 mem m2 → P (some (.int (jI f))) m2) : jT l 289 97 [some (.ref 388), some (.int (jI (sz))), some (.int (jI (zb fo))), y3] [.int (jI z), .ref 388] mem P := by
  have k8 := k9.2.2.2.2.2.2.2
  have k7 := k9.2.2.1
  have k6 := k9.2.2.2.2.2.2.1
  have hB := k9.2.2.2.2.1
  refine tl_puti (c := 12) (k9 := 34) rfl rfl rfl rfl ?_
  refine tl_aload_n rfl rfl ?_
  refine tl_aload_n rfl rfl ?_
  refine tl_geti (c := 12) (k9 := 34) rfl rfl rfl ?_
  rw [hs_s]
  refine tl_bipush rfl rfl ?_
  refine tl_icmp_le (tgt := 114) rfl rfl ⟨by omega, by omega⟩ ⟨by omega, by omega⟩ (fun c1 => ?_) (fun c1 => ?_)
  · skip
    show jT _ _ 114 _ _ _ _
    refine tl_iconst rfl ?_
    refine tl_iconst rfl ?_
    refine tl_v2v (c9 := 12) (r_fails l (hs mem 388 34 z) B N _ f (k9.pt (by decide)) _ _ (by omega) (by omega) (by omega)) rfl rfl rfl rfl rfl (Nat.le_of_ble_eq_true rfl) (fun h1 p1 => ?_)
    obtain ⟨k1, f1⟩ := p1
    rw [if_neg (by omega)] at k1
    show jT _ _ 119 _ _ _ _
    -- leaf 0 at 119
    exact r_t119 l h1 B N p f k1 f9 sz fo y3 z (by rw [f1.2 34 (by decide) (by decide), hs_s]) (by omega) R (by rw [f1.1 390 (by decide), hs_O (by decide)]; exact e390) ok P (fun m2 a => hP m2 ((FT9.put (by decide)).trans (f1.t9.trans a)))
  · show jT _ _ 110 _ _ _ _
    refine tl_iconst rfl ?_
    refine tl_goto (tgt := 115) rfl rfl ?_
    refine tl_iconst rfl ?_
    refine tl_v2v (c9 := 12) (r_fails l (hs mem 388 34 z) B N _ f (k9.pt (by decide)) _ _ (by omega) (by omega) (by omega)) rfl rfl rfl rfl rfl (Nat.le_of_ble_eq_true rfl) (fun h1 p1 => ?_)
    obtain ⟨k1, f1⟩ := p1
    rw [if_neg (by omega)] at k1
    show jT _ _ 119 _ _ _ _
    -- leaf 1 at 119
    exact r_t119 l h1 B N p f k1 f9 sz fo y3 z (by rw [f1.2 34 (by decide) (by decide), hs_s]) (by omega) R (by rw [f1.1 390 (by decide), hs_O (by decide)]; exact e390) ok P (fun m2 a => hP m2 ((FT9.put (by decide)).trans (f1.t9.trans a)))
