/-! a patch read: its rows, of the walked file -/
def plF (B : Nat → Int) (N : Nat) : Nat → Nat → List Int → Int × Nat × List Int
  | 0, p, V => (0, p, V)
  | m + 1, p, V => if p < N then plF B N m (p + 1) (V ++ [B p]) else (3, p, V)
theorem plF_t {B : Nat → Int} {N m p : Nat} {V : List Int} (h : p < N) : plF B N (m + 1) p V = plF B N m (p + 1) (V ++ [B p]) := by rw [plF, if_pos h]
theorem plF_f {B : Nat → Int} {N m p : Nat} {V : List Int} (h : ¬ p < N) : plF B N (m + 1) p V = (3, p, V) := by rw [plF, if_neg h]
theorem plF_b {B : Nat → Int} {N : Nat} (hB : BB B N) : ∀ m p V, p ≤ N → ((plF B N m p V).1 = 0 ∨ (plF B N m p V).1 = 3) ∧ (p ≤ (plF B N m p V).2.1 ∧ (plF B N m p V).2.1 ≤ N) ∧ ((plF B N m p V).1 = 0 → (plF B N m p V).2.2.length = V.length + m) ∧ (LB V → LB (plF B N m p V).2.2) := by
  intro m
  induction m with
  | zero => intro p V hp; exact ⟨Or.inl rfl, ⟨Nat.le_refl _, hp⟩, fun _ => rfl, fun h => h⟩
  | succ m ih =>
    intro p V hp
    by_cases c : p < N
    · rw [plF_t c]
      obtain ⟨a, b, d, e⟩ := ih (p + 1) (V ++ [B p]) (by omega)
      refine ⟨a, ⟨by omega, b.2⟩, fun h => ?_, fun h => e (h.app (LB.one (hB p c)))⟩
      rw [d h, List.length_append]; show V.length + 1 + m = _; omega
    · rw [plF_f c]
      exact ⟨Or.inr rfl, ⟨Nat.le_refl _, hp⟩, fun h => absurd h (by show ¬ (3 : Int) = 0; decide), fun h => h⟩
theorem rep_s {n : Nat} {x : Int} : List.replicate (n + 1) x = List.replicate n x ++ [x] := List.replicate_succ'
theorem rep_B {n : Nat} {x : Int} (h : byt x) : LB (List.replicate n x) := fun y hy => by rw [(List.mem_replicate.mp hy).2]; exact h
def zrR (B : Nat → Int) (N many : Nat) : Nat → Nat → List Int → Int × Nat × List Int
  | 0, p, V => (0, p, V)
  | f + 1, p, V => if many ≤ V.length then (0, p, V) else if (rn B N p).1 < 0 then (3, (rn B N p).2, V) else if (many : Int) - V.length < (rn B N p).1 then (5, (rn B N p).2, V) else if V.length + (rn B N p).1.toNat < many then (if (rn B N (rn B N p).2).1 = 0 ∨ (many : Int) - (V.length + (rn B N p).1.toNat : Nat) < (rn B N (rn B N p).2).1 then (5, (rn B N (rn B N p).2).2, V) else if (rn B N (rn B N p).2).1 < 0 then (3, (rn B N (rn B N p).2).2, V) else if (plF B N (rn B N (rn B N p).2).1.toNat (rn B N (rn B N p).2).2 (V ++ List.replicate (rn B N p).1.toNat 0)).1 = 0 then zrR B N many f (plF B N (rn B N (rn B N p).2).1.toNat (rn B N (rn B N p).2).2 (V ++ List.replicate (rn B N p).1.toNat 0)).2.1 (plF B N (rn B N (rn B N p).2).1.toNat (rn B N (rn B N p).2).2 (V ++ List.replicate (rn B N p).1.toNat 0)).2.2 else (3, (rn B N (rn B N p).2).2, V)) else zrR B N many f (rn B N p).2 (V ++ List.replicate (rn B N p).1.toNat 0)
def rnQ (B : Nat → Int) (N many : Nat) : Nat → Nat → List Int → Int × Nat × List Int
  | 0, p, V => (0, p, V)
  | f + 1, p, V => if many ≤ V.length then (0, p, V) else if (rn B N p).1 < 0 then (3, (rn B N p).2, V) else if (rn B N p).1 = 0 ∨ (many : Int) - V.length < (rn B N p).1 then (5, (rn B N p).2, V) else if (rb B N (rn B N p).2).1 < 0 then (3, (rb B N (rn B N p).2).2, V) else rnQ B N many f (rb B N (rn B N p).2).2 (V ++ List.replicate (rn B N p).1.toNat (rb B N (rn B N p).2).1)
theorem zrR_e {B : Nat → Int} {N many f p : Nat} {V : List Int} (h : many ≤ V.length) : zrR B N many f p V = (0, p, V) := by
  cases f with
  | zero => rfl
  | succ f => rw [zrR, if_pos h]
theorem rnQ_e {B : Nat → Int} {N many f p : Nat} {V : List Int} (h : many ≤ V.length) : rnQ B N many f p V = (0, p, V) := by
  cases f with
  | zero => rfl
  | succ f => rw [rnQ, if_pos h]
/-- a row read: its flaw, the place behind, its bytes -/
def rwR (B : Nat → Int) (N many p : Nat) : Int × Nat × List Int := if (rn B N p).1 < 0 then (3, (rn B N p).2, []) else if 2 < (rn B N p).1 then (5, (rn B N p).2, []) else if (rn B N p).1 = 0 then plF B N many (rn B N p).2 [] else if (rn B N p).1 = 1 then zrR B N many many (rn B N p).2 [] else rnQ B N many many (rn B N p).2 []
set_option maxRecDepth 20000 in
set_option maxHeartbeats 1000000 in
theorem c_addM_lp (l : Launch) {r a n : Nat} (hS : RowS r a n) (h : jH) (V : List Int) (x : Int) (many : Nat) (m60 : many ≤ 60000) (hn : V.length + many ≤ n) (P : Option Value → jH → Prop) (hP : ∀ mem, (RL mem r a (V ++ List.replicate many x) ∧ ∀ y, y ≠ r → y ≠ a → mem y = h y) → P none mem) : ∀ (m : Nat) (k : Nat) (mem : jH), many - k < m → (k ≤ many ∧ RL mem r a (V ++ List.replicate k x) ∧ ∀ y, y ≠ r → y ≠ a → mem y = h y) → jT l 101 2 [some (.ref r), some (.int (jI (x))), some (.int (jI ((many : Int)))), some (.int (jI ((k : Int))))] [] mem P := by
  intro m
  induction m with
  | zero => intro k mem hk; omega
  | succ m ih =>
    intro k mem hk hi
    obtain ⟨i0, i1, fr⟩ := hi
    refine tl_iload_n rfl rfl ?_
    refine tl_iload_n rfl rfl ?_
    refine tl_icmp_ge (tgt := 18) rfl rfl ⟨by omega, by omega⟩ ⟨by omega, by omega⟩ (fun c1 => ?_) (fun c1 => ?_)
    · skip
      refine tl_ret rfl ?_
      -- leaf 0 at 18
      have e : k = many := by omega
      rw [e] at i1
      exact hP mem ⟨i1, fr⟩
    · show jT _ _ 7 _ _ _ _
      refine tl_aload_n rfl rfl ?_
      refine tl_iload_n rfl rfl ?_
      show jT _ _ 9 _ _ _ _
      refine tl_v1v (c9 := 8) (c_addL l hS mem _ i1 (by rw [List.length_append, List.length_replicate]; omega) x) rfl rfl rfl hS.1 rfl (Nat.le_of_ble_eq_true rfl) (fun h2 p2 => ?_)
      obtain ⟨k2, f2⟩ := p2
      refine tl_iinc rfl rfl rfl ?_
      refine tl_goto (tgt := 2) rfl rfl ?_
      show jT _ _ 2 _ _ _ _
      -- leaf 1 at 2
      refine ih (k + 1) h2 (by omega) ⟨by omega, ?_, fun y y1 y2 => (f2 y y1 y2).trans (fr y y1 y2)⟩
      rw [rep_s, ← List.append_assoc]; exact k2
set_option maxRecDepth 20000 in
set_option maxHeartbeats 1000000 in
theorem c_addM (l : Launch) {r a n : Nat} (hS : RowS r a n) (h : jH) (V : List Int) (kV : RL h r a V) (x : Int) (many : Nat) (m60 : many ≤ 60000) (hn : V.length + many ≤ n) : cV l 101 [.ref r, .int (jI x), .int (jI (many : Int))] h (fun h' => RL h' r a (V ++ List.replicate many x) ∧ ∀ y, y ≠ r → y ≠ a → h' y = h y) := by
  refine cV.of rfl rfl ?_
  refine tl_iconst rfl ?_
  refine tl_istore_n rfl (Nat.le_of_ble_eq_true rfl) rfl ?_
  show jT _ _ 2 _ _ _ _
  -- leaf 0 at 2
  exact c_addM_lp l hS h V x many m60 hn _ (fun mem hi => ⟨rfl, hi⟩) _ 0 h (Nat.lt_succ_self _) ⟨Nat.zero_le _, by rw [List.replicate, List.append_nil]; exact kV, fun y _ _ => rfl⟩
theorem c_addM2 (l : Launch) {r a n : Nat} (hS : RowS r a n) (h : jH) (V : List Int) (kV : RL h r a V) (x m9 : Int) (m0 : 0 ≤ m9) (m60 : m9.toNat ≤ 60000) (hn : V.length + m9.toNat ≤ n) : cV l 101 [.ref r, .int (jI x), .int (jI m9)] h (fun h' => RL h' r a (V ++ List.replicate m9.toNat x) ∧ ∀ y, y ≠ r → y ≠ a → h' y = h y) := by
  have := c_addM l hS h V kV x m9.toNat m60 hn
  rwa [Int.toNat_of_nonneg m0] at this
set_option maxRecDepth 20000 in
set_option maxHeartbeats 1000000 in
theorem k_plf_lp (l : Launch) {r a n : Nat} (hS : RowS r a n) (hD : (r < 339 ∨ 351 < r) ∧ (a < 339 ∨ 351 < a)) (h : jH) (B : Nat → Int) (N : Nat) (hB : BB B N) (many : Nat) (m64 : many ≤ 64) (E : Int × Nat × List Int) (P : Option Value → jH → Prop) (hP : ∀ z mem, (z = E.1 ∧ (E.1 = 0 → RDK mem B N E.2.1 ∧ RL mem r a E.2.2) ∧ (∀ x, x ≠ 339 → x ≠ r → x ≠ a → mem x = h x) ∧ ∀ q, q ≠ 16 → mem 339 q = h 339 q) → P (some (.int (jI z))) mem) : ∀ (m : Nat) (k : Nat) (p : Nat) (V : List Int) (mem : jH) (y4 : Option Value), many - k < m → (k ≤ many ∧ V.length + (many - k) ≤ n ∧ RDK mem B N p ∧ RL mem r a V ∧ plF B N (many - k) p V = E ∧ (∀ x, x ≠ 339 → x ≠ r → x ≠ a → mem x = h x) ∧ ∀ q, q ≠ 16 → mem 339 q = h 339 q) → jT l 73 2 [some (.ref 339), some (.ref r), some (.int (jI ((many : Int)))), some (.int (jI ((k : Int)))), y4] [] mem P := by
  intro m
  induction m with
  | zero => intro k p V mem y4 hk; omega
  | succ m ih =>
    intro k p V mem y4 hk hi
    obtain ⟨i0, i1, i2, i3, hE, fr, fr2⟩ := hi
    have pb := rb_b hB i2.2.2.2.2.2
    refine tl_iload_n rfl rfl ?_
    refine tl_iload_n rfl rfl ?_
    refine tl_icmp_ge (tgt := 32) rfl rfl ⟨by omega, by omega⟩ ⟨by omega, by omega⟩ (fun c1 => ?_) (fun c1 => ?_)
    · skip
      refine tl_iconst rfl ?_
      refine tl_iret rfl ?_
      -- leaf 0 at 33
      have e : many - k = 0 := by omega
      rw [e] at hE
      subst hE
      exact hP _ mem ⟨rfl, fun _ => ⟨i2, i3⟩, fr, fr2⟩
    · show jT _ _ 7 _ _ _ _
      refine tl_aload_n rfl rfl ?_
      show jT _ _ 8 _ _ _ _
      refine tl_v0i (c9 := 6) (k_nextByte l mem B N p i2) rfl rfl rfl rfl rfl (Nat.le_of_ble_eq_true rfl) (fun z1 h1 p1 => ?_)
      obtain ⟨e1, k1, f1⟩ := p1
      refine tl_istore rfl (Nat.le_of_ble_eq_true rfl) rfl ?_
      refine tl_iload rfl rfl ?_
      refine tl_if_ge (tgt := 20) rfl rfl ⟨by omega, by omega⟩ (fun c2 => ?_) (fun c2 => ?_)
      · skip
        refine tl_aload_n rfl rfl ?_
        refine tl_iload rfl rfl ?_
        refine tl_v1v (c9 := 8) (c_addL l hS h1 _ (i3.of (f1.1 r (by omega)) (f1.1 a (by omega))) (by omega) z1) rfl rfl rfl hS.1 rfl (Nat.le_of_ble_eq_true rfl) (fun h2 p2 => ?_)
        obtain ⟨k2, f2⟩ := p2
        show jT _ _ 26 _ _ _ _
        refine tl_iinc rfl rfl rfl ?_
        refine tl_goto (tgt := 2) rfl rfl ?_
        show jT _ _ 2 _ _ _ _
        -- leaf 1 at 2
        have np : p < N := by
          by_cases c : p < N
          · exact c
          · rw [rb_f c] at e1; have e2 : z1 = -1 := e1; omega
        rw [rb_t np] at e1 k1
        have e2 : z1 = B p := e1
        subst e2
        rw [show many - k = many - k - 1 + 1 by omega, plF_t np] at hE
        refine ih (k + 1) (p + 1) (V ++ [B p]) h2 _ (by omega) ⟨by omega, by rw [List.length_append]; show V.length + 1 + _ ≤ n; omega, k1.at' (fun q hq => by rw [f2 339 (by omega) (by omega)]) (f2 351 (by omega) (by omega)), k2, by rw [show many - (k + 1) = many - k - 1 by omega]; exact hE, fun x x1 x2 x3 => by rw [f2 x x2 x3, f1.1 x x1]; exact fr x x1 x2 x3, fun q hq => by rw [f2 339 (by omega) (by omega), f1.2 q hq]; exact fr2 q hq⟩
      · show jT _ _ 18 _ _ _ _
        refine tl_iconst rfl ?_
        refine tl_iret rfl ?_
        -- leaf 2 at 19
        have np : ¬ p < N := fun c => by rw [rb_t c] at e1; have := hB p c; have t1 := this.1; have e2 : z1 = B p := e1; omega
        rw [show many - k = many - k - 1 + 1 by omega, plF_f np] at hE
        subst hE
        exact hP _ h1 ⟨rfl, fun hz => absurd hz (by show ¬ (3 : Int) = 0; decide), fun x x1 x2 x3 => by rw [f1.1 x x1]; exact fr x x1 x2 x3, fun q hq => by rw [f1.2 q hq]; exact fr2 q hq⟩
set_option maxRecDepth 20000 in
set_option maxHeartbeats 1000000 in
theorem k_plain9 (l : Launch) {r a n : Nat} (hS : RowS r a n) (hD : (r < 339 ∨ 351 < r) ∧ (a < 339 ∨ 351 < a)) (h : jH) (B : Nat → Int) (N : Nat) (hB : BB B N) (many p : Nat) (m64 : many ≤ 64) (V : List Int) (hV : V.length + many ≤ n) (kr : RDK h B N p) (kV : RL h r a V) : cI l 73 [.ref 339, .ref r, .int (jI (many : Int))] h (fun z h' => (z = (plF B N many p V).1 ∧ ((plF B N many p V).1 = 0 → RDK h' B N (plF B N many p V).2.1 ∧ RL h' r a (plF B N many p V).2.2) ∧ (∀ x, x ≠ 339 → x ≠ r → x ≠ a → h' x = h x) ∧ ∀ q, q ≠ 16 → h' 339 q = h 339 q)) := by
  refine cI.of rfl rfl ?_
  refine tl_iconst rfl ?_
  refine tl_istore_n rfl (Nat.le_of_ble_eq_true rfl) rfl ?_
  show jT _ _ 2 _ _ _ _
  -- leaf 0 at 2
  exact k_plf_lp l hS hD h B N hB many m64 _ _ (fun z mem hz => ⟨z, rfl, hz⟩) _ 0 p V h _ (Nat.lt_succ_self _) ⟨Nat.zero_le _, hV, kr, kV, rfl, fun x _ _ _ => rfl, fun q _ => rfl⟩
theorem k_plain92 (l : Launch) {r a n : Nat} (hS : RowS r a n) (hD : (r < 339 ∨ 351 < r) ∧ (a < 339 ∨ 351 < a)) (h : jH) (B : Nat → Int) (N : Nat) (hB : BB B N) (m9 : Int) (m0 : 0 ≤ m9) (p : Nat) (m64 : m9.toNat ≤ 64) (V : List Int) (hV : V.length + m9.toNat ≤ n) (kr : RDK h B N p) (kV : RL h r a V) : cI l 73 [.ref 339, .ref r, .int (jI m9)] h (fun z h' => (z = (plF B N m9.toNat p V).1 ∧ ((plF B N m9.toNat p V).1 = 0 → RDK h' B N (plF B N m9.toNat p V).2.1 ∧ RL h' r a (plF B N m9.toNat p V).2.2) ∧ (∀ x, x ≠ 339 → x ≠ r → x ≠ a → h' x = h x) ∧ ∀ q, q ≠ 16 → h' 339 q = h 339 q)) := by
  have := k_plain9 l hS hD h B N hB m9.toNat p m64 V hV kr kV
  rwa [Int.toNat_of_nonneg m0] at this
set_option maxRecDepth 20000 in
set_option maxHeartbeats 1000000 in
theorem k_zrf_lp (l : Launch) {r a n : Nat} (hS : RowS r a n) (hD : (r < 339 ∨ 351 < r) ∧ (a < 339 ∨ 351 < a)) (h : jH) (B : Nat → Int) (N : Nat) (hB : BB B N) (many : Nat) (m64 : many ≤ 64) (mn : many ≤ n) (E : Int × Nat × List Int) (P : Option Value → jH → Prop) (hP : ∀ z mem, (z = E.1 ∧ (E.1 = 0 → RDK mem B N E.2.1 ∧ RL mem r a E.2.2) ∧ (∀ x, x ≠ 339 → x ≠ r → x ≠ a → mem x = h x) ∧ ∀ q, q ≠ 16 → mem 339 q = h 339 q) → P (some (.int (jI z))) mem) : ∀ (m : Nat) (rd : Nat) (p : Nat) (V : List Int) (fu : Nat) (mem : jH) (y4 : Option Value) (y5 : Option Value), many - rd < m → (rd ≤ V.length ∧ V.length ≤ many ∧ many - V.length ≤ fu ∧ RDK mem B N p ∧ RL mem r a V ∧ zrR B N many fu p V = E ∧ (∀ x, x ≠ 339 → x ≠ r → x ≠ a → mem x = h x) ∧ ∀ q, q ≠ 16 → mem 339 q = h 339 q) → jT l 74 2 [some (.ref 339), some (.ref r), some (.int (jI ((many : Int)))), some (.int (jI ((rd : Int)))), y4, y5] [] mem P := by
  intro m
  induction m with
  | zero => intro rd p V fu mem y4 y5 hk; omega
  | succ m ih =>
    intro rd p V fu mem y4 y5 hk hi
    obtain ⟨i0, i1, ifu, i2, i3, hE, fr, fr2⟩ := hi
    have pb := rn_b hB i2.2.2.2.2.2
    have pb2 := rn_b hB pb.2.2.1
    refine tl_iload_n rfl rfl ?_
    refine tl_iload_n rfl rfl ?_
    refine tl_icmp_ge (tgt := 103) rfl rfl ⟨by omega, by omega⟩ ⟨by omega, by omega⟩ (fun c1 => ?_) (fun c1 => ?_)
    · skip
      refine tl_iconst rfl ?_
      refine tl_iret rfl ?_
      -- leaf 0 at 104
      have e : many ≤ V.length := by omega
      rw [zrR_e e] at hE
      subst hE
      exact hP _ mem ⟨rfl, fun _ => ⟨i2, i3⟩, fr, fr2⟩
    · show jT _ _ 7 _ _ _ _
      refine tl_aload_n rfl rfl ?_
      show jT _ _ 8 _ _ _ _
      refine tl_geti (c := 8) (k9 := 1) rfl hS.1 rfl ?_
      rw [i3.1]
      refine tl_iload_n rfl rfl ?_
      refine tl_icmp_ge (tgt := 103) rfl rfl ⟨by omega, by omega⟩ ⟨by omega, by omega⟩ (fun c2 => ?_) (fun c2 => ?_)
      · skip
        refine tl_iconst rfl ?_
        refine tl_iret rfl ?_
        -- leaf 1 at 104
        have e : many ≤ V.length := by omega
        rw [zrR_e e] at hE
        subst hE
        exact hP _ mem ⟨rfl, fun _ => ⟨i2, i3⟩, fr, fr2⟩
      · show jT _ _ 15 _ _ _ _
        refine tl_aload_n rfl rfl ?_
        refine tl_v0i (c9 := 6) (k_nextNum l mem B N p i2) rfl rfl rfl rfl rfl (Nat.le_of_ble_eq_true rfl) (fun z1 h1 p1 => ?_)
        obtain ⟨e1, k1, f1⟩ := p1
        subst e1
        show jT _ _ 19 _ _ _ _
        refine tl_istore rfl (Nat.le_of_ble_eq_true rfl) rfl ?_
        refine tl_iload rfl rfl ?_
        refine tl_if_ge (tgt := 28) rfl rfl ⟨by omega, by omega⟩ (fun c3 => ?_) (fun c3 => ?_)
        · skip
          refine tl_iload rfl rfl ?_
          refine tl_iload_n rfl rfl ?_
          refine tl_aload_n rfl rfl ?_
          refine tl_geti (c := 8) (k9 := 1) rfl hS.1 rfl ?_
          rw [f1.1 r (by omega), i3.1]
          show jT _ _ 35 _ _ _ _
          refine tl_isub rfl ?_
          refine tl_icmp_le (tgt := 41) rfl rfl ⟨by omega, by omega⟩ ⟨by omega, by omega⟩ (fun c4 => ?_) (fun c4 => ?_)
          · skip
            refine tl_aload_n rfl rfl ?_
            refine tl_iconst rfl ?_
            refine tl_iload rfl rfl ?_
            refine tl_v2v (c9 := 8) (c_addM2 l hS h1 V (i3.of (f1.1 r (by omega)) (f1.1 a (by omega))) 0 (rn B N p).1 (by omega) (by omega) (by omega)) rfl rfl rfl hS.1 rfl (Nat.le_of_ble_eq_true rfl) (fun h2 p2 => ?_)
            obtain ⟨k2, f2⟩ := p2
            have r2 : RDK h2 B N (rn B N p).2 := k1.at' (fun q hq => by rw [f2 339 (by omega) (by omega)]) (f2 351 (by omega) (by omega))
            refine tl_aload_n rfl rfl ?_
            show jT _ _ 49 _ _ _ _
            refine tl_geti (c := 8) (k9 := 1) rfl hS.1 rfl ?_
            rw [k2.1, List.length_append, List.length_replicate]
            refine tl_iload_n rfl rfl ?_
            refine tl_icmp_ge (tgt := 97) rfl rfl ⟨by omega, by omega⟩ ⟨by omega, by omega⟩ (fun c5 => ?_) (fun c5 => ?_)
            · skip
              refine tl_iinc rfl rfl rfl ?_
              refine tl_goto (tgt := 2) rfl rfl ?_
              show jT _ _ 2 _ _ _ _
              -- leaf 2 at 2
              first
                | (rw [show fu = fu - 1 + 1 by omega, zrR, if_neg (by omega), if_neg (by omega), if_neg (by omega), if_neg (by omega)] at hE
                   refine jT.loc ?_ (ih (rd + 1) (rn B N p).2 (V ++ List.replicate (rn B N p).1.toNat 0) (fu - 1) h2 (some (.int (jI ((rn B N p).1)))) y5 (by omega) ⟨by rw [List.length_append, List.length_replicate]; omega, by rw [List.length_append, List.length_replicate]; omega, by rw [List.length_append, List.length_replicate]; omega, r2, k2, hE, fun x x1 x2 x3 => by rw [f2 x x2 x3, f1.1 x x1]; exact fr x x1 x2 x3, fun q hq => by rw [f2 339 (by omega) (by omega), f1.2 q hq]; exact fr2 q hq⟩)
                   rfl)
                | (rw [show fu = fu - 1 + 1 by omega, zrR, if_neg (by omega), if_neg (by omega), if_neg (by omega), if_pos (by omega), if_neg (by omega), if_neg (by omega), if_pos (by omega)] at hE
                   have z0 : (plF B N (rn B N (rn B N p).2).1.toNat (rn B N (rn B N p).2).2 (V ++ List.replicate (rn B N p).1.toNat 0)).1 = 0 := by omega
                   have q4 := k4 z0
                   have l4 := pf.2.2.1 z0
                   rw [List.length_append, List.length_replicate] at l4
                   refine jT.loc ?_ (ih (rd + 1) (plF B N (rn B N (rn B N p).2).1.toNat (rn B N (rn B N p).2).2 (V ++ List.replicate (rn B N p).1.toNat 0)).2.1 (plF B N (rn B N (rn B N p).2).1.toNat (rn B N (rn B N p).2).2 (V ++ List.replicate (rn B N p).1.toNat 0)).2.2 (fu - 1) h4 (some (.int (jI ((rn B N p).1)))) (some (.int (jI ((rn B N (rn B N p).2).1)))) (by omega) ⟨by omega, by omega, by omega, q4.1, q4.2, hE, fun x x1 x2 x3 => by rw [f4 x x1 x2 x3, f3.1 x x1, f2 x x2 x3, f1.1 x x1]; exact fr x x1 x2 x3, fun q hq => by rw [g4 q hq, f3.2 q hq, f2 339 (by omega) (by omega), f1.2 q hq]; exact fr2 q hq⟩)
                   rfl)
            · show jT _ _ 56 _ _ _ _
              refine tl_aload_n rfl rfl ?_
              refine tl_v0i (c9 := 6) (k_nextNum l h2 B N (rn B N p).2 r2) rfl rfl rfl rfl rfl (Nat.le_of_ble_eq_true rfl) (fun z3 h3 p3 => ?_)
              obtain ⟨e3, k3, f3⟩ := p3
              subst e3
              show jT _ _ 60 _ _ _ _
              refine tl_istore rfl (Nat.le_of_ble_eq_true rfl) rfl ?_
              refine tl_iload rfl rfl ?_
              refine tl_if_eq (tgt := 78) rfl rfl ⟨by omega, by omega⟩ (fun c6 => ?_) (fun c6 => ?_)
              · skip
                refine tl_iconst rfl ?_
                refine tl_iret rfl ?_
                -- leaf 3 at 79
                first
                  | (exfalso; omega)
                  | (rw [show fu = fu - 1 + 1 by omega, zrR, if_neg (by omega), if_neg (by omega), if_neg (by omega), if_pos (by omega), if_pos (by omega)] at hE
                     subst hE
                     exact hP _ _ ⟨rfl, fun hz => absurd hz (by show ¬ (5 : Int) = 0; decide), fun x x1 x2 x3 => by rw [f3.1 x x1, f2 x x2 x3, f1.1 x x1]; exact fr x x1 x2 x3, fun q hq => by rw [f3.2 q hq, f2 339 (by omega) (by omega), f1.2 q hq]; exact fr2 q hq⟩)
              · show jT _ _ 67 _ _ _ _
                refine tl_iload rfl rfl ?_
                refine tl_iload_n rfl rfl ?_
                show jT _ _ 70 _ _ _ _
                refine tl_aload_n rfl rfl ?_
                refine tl_geti (c := 8) (k9 := 1) rfl hS.1 rfl ?_
                rw [f3.1 r (by omega), k2.1, List.length_append, List.length_replicate]
                refine tl_isub rfl ?_
                refine tl_icmp_le (tgt := 80) rfl rfl ⟨by omega, by omega⟩ ⟨by omega, by omega⟩ (fun c7 => ?_) (fun c7 => ?_)
                · skip
                  refine tl_iload rfl rfl ?_
                  refine tl_if_lt (tgt := 95) rfl rfl ⟨by omega, by omega⟩ (fun c8 => ?_) (fun c8 => ?_)
                  · skip
                    refine tl_iconst rfl ?_
                    show jT _ _ 96 _ _ _ _
                    refine tl_iret rfl ?_
                    -- leaf 4 at 96
                    first
                      | (rw [show fu = fu - 1 + 1 by omega, zrR, if_neg (by omega), if_neg (by omega), if_neg (by omega), if_pos (by omega), if_neg (by omega), if_pos (by omega)] at hE
                         subst hE
                         exact hP _ _ ⟨rfl, fun hz => absurd hz (by show ¬ (3 : Int) = 0; decide), fun x x1 x2 x3 => by rw [f3.1 x x1, f2 x x2 x3, f1.1 x x1]; exact fr x x1 x2 x3, fun q hq => by rw [f3.2 q hq, f2 339 (by omega) (by omega), f1.2 q hq]; exact fr2 q hq⟩)
                      | (rw [show fu = fu - 1 + 1 by omega, zrR, if_neg (by omega), if_neg (by omega), if_neg (by omega), if_pos (by omega), if_neg (by omega), if_neg (by omega), if_neg (by omega)] at hE
                         subst hE
                         exact hP _ _ ⟨rfl, fun hz => absurd hz (by show ¬ (3 : Int) = 0; decide), fun x x1 x2 x3 => by rw [f4 x x1 x2 x3, f3.1 x x1, f2 x x2 x3, f1.1 x x1]; exact fr x x1 x2 x3, fun q hq => by rw [g4 q hq, f3.2 q hq, f2 339 (by omega) (by omega), f1.2 q hq]; exact fr2 q hq⟩)
                  · show jT _ _ 85 _ _ _ _
                    refine tl_aload_n rfl rfl ?_
                    refine tl_aload_n rfl rfl ?_
                    refine tl_iload rfl rfl ?_
                    refine tl_v2i (c9 := 6) (k_plain92 l hS hD h3 B N hB (rn B N (rn B N p).2).1 (by omega) (rn B N (rn B N p).2).2 (by omega) (V ++ List.replicate (rn B N p).1.toNat 0) (by rw [List.length_append, List.length_replicate]; omega) k3 (k2.of (f3.1 r (by omega)) (f3.1 a (by omega)))) rfl rfl rfl rfl rfl (Nat.le_of_ble_eq_true rfl) (fun z4 h4 p4 => ?_)
                    obtain ⟨e4, k4, f4, g4⟩ := p4
                    have pf := plF_b hB (rn B N (rn B N p).2).1.toNat (rn B N (rn B N p).2).2 (V ++ List.replicate (rn B N p).1.toNat 0) pb2.2.2.1
                    refine tl_if_eq (tgt := 97) rfl rfl ⟨by omega, by omega⟩ (fun c9 => ?_) (fun c9 => ?_)
                    · skip
                      refine tl_iinc rfl rfl rfl ?_
                      show jT _ _ 100 _ _ _ _
                      refine tl_goto (tgt := 2) rfl rfl ?_
                      show jT _ _ 2 _ _ _ _
                      -- leaf 5 at 2
                      first
                        | (rw [show fu = fu - 1 + 1 by omega, zrR, if_neg (by omega), if_neg (by omega), if_neg (by omega), if_neg (by omega)] at hE
                           refine jT.loc ?_ (ih (rd + 1) (rn B N p).2 (V ++ List.replicate (rn B N p).1.toNat 0) (fu - 1) h2 (some (.int (jI ((rn B N p).1)))) y5 (by omega) ⟨by rw [List.length_append, List.length_replicate]; omega, by rw [List.length_append, List.length_replicate]; omega, by rw [List.length_append, List.length_replicate]; omega, r2, k2, hE, fun x x1 x2 x3 => by rw [f2 x x2 x3, f1.1 x x1]; exact fr x x1 x2 x3, fun q hq => by rw [f2 339 (by omega) (by omega), f1.2 q hq]; exact fr2 q hq⟩)
                           rfl)
                        | (rw [show fu = fu - 1 + 1 by omega, zrR, if_neg (by omega), if_neg (by omega), if_neg (by omega), if_pos (by omega), if_neg (by omega), if_neg (by omega), if_pos (by omega)] at hE
                           have z0 : (plF B N (rn B N (rn B N p).2).1.toNat (rn B N (rn B N p).2).2 (V ++ List.replicate (rn B N p).1.toNat 0)).1 = 0 := by omega
                           have q4 := k4 z0
                           have l4 := pf.2.2.1 z0
                           rw [List.length_append, List.length_replicate] at l4
                           refine jT.loc ?_ (ih (rd + 1) (plF B N (rn B N (rn B N p).2).1.toNat (rn B N (rn B N p).2).2 (V ++ List.replicate (rn B N p).1.toNat 0)).2.1 (plF B N (rn B N (rn B N p).2).1.toNat (rn B N (rn B N p).2).2 (V ++ List.replicate (rn B N p).1.toNat 0)).2.2 (fu - 1) h4 (some (.int (jI ((rn B N p).1)))) (some (.int (jI ((rn B N (rn B N p).2).1)))) (by omega) ⟨by omega, by omega, by omega, q4.1, q4.2, hE, fun x x1 x2 x3 => by rw [f4 x x1 x2 x3, f3.1 x x1, f2 x x2 x3, f1.1 x x1]; exact fr x x1 x2 x3, fun q hq => by rw [g4 q hq, f3.2 q hq, f2 339 (by omega) (by omega), f1.2 q hq]; exact fr2 q hq⟩)
                           rfl)
                    · show jT _ _ 95 _ _ _ _
                      refine tl_iconst rfl ?_
                      refine tl_iret rfl ?_
                      -- leaf 6 at 96
                      first
                        | (rw [show fu = fu - 1 + 1 by omega, zrR, if_neg (by omega), if_neg (by omega), if_neg (by omega), if_pos (by omega), if_neg (by omega), if_pos (by omega)] at hE
                           subst hE
                           exact hP _ _ ⟨rfl, fun hz => absurd hz (by show ¬ (3 : Int) = 0; decide), fun x x1 x2 x3 => by rw [f3.1 x x1, f2 x x2 x3, f1.1 x x1]; exact fr x x1 x2 x3, fun q hq => by rw [f3.2 q hq, f2 339 (by omega) (by omega), f1.2 q hq]; exact fr2 q hq⟩)
                        | (rw [show fu = fu - 1 + 1 by omega, zrR, if_neg (by omega), if_neg (by omega), if_neg (by omega), if_pos (by omega), if_neg (by omega), if_neg (by omega), if_neg (by omega)] at hE
                           subst hE
                           exact hP _ _ ⟨rfl, fun hz => absurd hz (by show ¬ (3 : Int) = 0; decide), fun x x1 x2 x3 => by rw [f4 x x1 x2 x3, f3.1 x x1, f2 x x2 x3, f1.1 x x1]; exact fr x x1 x2 x3, fun q hq => by rw [g4 q hq, f3.2 q hq, f2 339 (by omega) (by omega), f1.2 q hq]; exact fr2 q hq⟩)
                · show jT _ _ 78 _ _ _ _
                  refine tl_iconst rfl ?_
                  refine tl_iret rfl ?_
                  -- leaf 7 at 79
                  first
                    | (exfalso; omega)
                    | (rw [show fu = fu - 1 + 1 by omega, zrR, if_neg (by omega), if_neg (by omega), if_neg (by omega), if_pos (by omega), if_pos (by omega)] at hE
                       subst hE
                       exact hP _ _ ⟨rfl, fun hz => absurd hz (by show ¬ (5 : Int) = 0; decide), fun x x1 x2 x3 => by rw [f3.1 x x1, f2 x x2 x3, f1.1 x x1]; exact fr x x1 x2 x3, fun q hq => by rw [f3.2 q hq, f2 339 (by omega) (by omega), f1.2 q hq]; exact fr2 q hq⟩)
          · show jT _ _ 39 _ _ _ _
            refine tl_iconst rfl ?_
            refine tl_iret rfl ?_
            -- leaf 8 at 40
            rw [show fu = fu - 1 + 1 by omega, zrR, if_neg (by omega), if_neg (by omega), if_pos (by omega)] at hE
            subst hE
            exact hP _ _ ⟨rfl, fun hz => absurd hz (by show ¬ (5 : Int) = 0; decide), fun x x1 x2 x3 => by rw [f1.1 x x1]; exact fr x x1 x2 x3, fun q hq => by rw [f1.2 q hq]; exact fr2 q hq⟩
        · show jT _ _ 26 _ _ _ _
          show jT _ _ 26 _ _ _ _
          refine tl_iconst rfl ?_
          refine tl_iret rfl ?_
          -- leaf 9 at 27
          rw [show fu = fu - 1 + 1 by omega, zrR, if_neg (by omega), if_pos (by omega)] at hE
          subst hE
          exact hP _ _ ⟨rfl, fun hz => absurd hz (by show ¬ (3 : Int) = 0; decide), fun x x1 x2 x3 => by rw [f1.1 x x1]; exact fr x x1 x2 x3, fun q hq => by rw [f1.2 q hq]; exact fr2 q hq⟩
