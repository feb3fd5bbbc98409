/-! stay -/
def mxW (P : Nat → Bool) (W : Nat → Int) : Nat → Int
  | 0 => 0
  | n + 1 => if P n = true then max (mxW P W n) (W n) else mxW P W n
theorem mxW_c {P : Nat → Bool} {W W' : Nat → Int} : ∀ n, (∀ q, q < n → W q = W' q) → mxW P W n = mxW P W' n := by
  intro n
  induction n with
  | zero => intro _; rfl
  | succ n ih => intro h; rw [mxW, mxW, ih (fun q hq => h q (by omega)), h n (by omega)]
theorem mxW_b {P : Nat → Bool} {W : Nat → Int} {B : Int} (b0 : 0 ≤ B) : ∀ n, (∀ q, q < n → W q ≤ B) → 0 ≤ mxW P W n ∧ mxW P W n ≤ B := by
  intro n
  induction n with
  | zero => intro _; exact ⟨Int.le_refl _, b0⟩
  | succ n ih =>
    intro h
    have a := ih (fun q hq => h q (by omega))
    have b := h n (by omega)
    rw [mxW]
    split <;> omega
theorem mxW_0 {P : Nat → Bool} {W : Nat → Int} : ∀ n, 0 ≤ mxW P W n := by
  intro n
  induction n with
  | zero => exact Int.le_refl _
  | succ n ih => rw [mxW]; split <;> omega
theorem mxW_u {P : Nat → Bool} {W : Nat → Int} : ∀ n k, k < n → P k = true → W k ≤ mxW P W n := by
  intro n
  induction n with
  | zero => intro k hk; omega
  | succ n ih =>
    intro k hk hp
    rw [mxW]
    by_cases c : k = n
    · subst c; rw [if_pos hp]; omega
    · have := ih k (by omega) hp
      split <;> omega
theorem mxW_a {P : Nat → Bool} {W : Nat → Int} : ∀ n, mxW P W n = 0 ∨ ∃ k, k < n ∧ P k = true ∧ mxW P W n = W k := by
  intro n
  induction n with
  | zero => exact Or.inl rfl
  | succ n ih =>
    rw [mxW]
    by_cases c : P n = true
    · rw [if_pos c]
      by_cases d : mxW P W n ≤ W n
      · exact Or.inr ⟨n, by omega, c, by omega⟩
      · rcases ih with e | ⟨k, k1, k2, k3⟩
        · exact Or.inl (by omega)
        · exact Or.inr ⟨k, by omega, k2, by omega⟩
    · rw [if_neg c]
      rcases ih with e | ⟨k, k1, k2, k3⟩
      · exact Or.inl e
      · exact Or.inr ⟨k, by omega, k2, k3⟩
def stP (S : jH) (z : Bool) (i k : Nat) : Bool := decide (S 1 k + S 2 k ≤ S 1 i) && (z || decide (0 < S 2 k ∧ 0 < S 2 i))
theorem stP_t {S : jH} {i k : Nat} : stP S true i k = true ↔ S 1 k + S 2 k ≤ S 1 i := by
  unfold stP
  by_cases c : S 1 k + S 2 k ≤ S 1 i
  · rw [decide_eq_true c]; exact ⟨fun _ => c, fun _ => rfl⟩
  · rw [decide_eq_false c]; exact ⟨fun h => absurd h (by simp), fun h => absurd h c⟩
theorem stP_f {S : jH} {i k : Nat} : stP S false i k = true ↔ (S 1 k + S 2 k ≤ S 1 i ∧ 0 < S 2 k ∧ 0 < S 2 i) := by
  unfold stP
  by_cases c : S 1 k + S 2 k ≤ S 1 i
  · by_cases d : 0 < S 2 k ∧ 0 < S 2 i
    · rw [decide_eq_true c, decide_eq_true d]; exact ⟨fun _ => ⟨c, d⟩, fun _ => rfl⟩
    · rw [decide_eq_true c, decide_eq_false d]; exact ⟨fun h => absurd h (by decide), fun h => absurd h.2 d⟩
  · rw [decide_eq_false c]; exact ⟨fun h => absurd h (by simp), fun h => absurd h.1 c⟩
def stF (S : jH) (z : Bool) : Nat → Nat → Int
  | 0 => fun _ => 0
  | n + 1 => fun q => if q = n then mxW (stP S z n) (stF S z n) n + S 2 n else stF S z n q
theorem stF_n {S : jH} {z : Bool} {n : Nat} : stF S z (n + 1) n = mxW (stP S z n) (stF S z n) n + S 2 n := by
  show (if n = n then mxW (stP S z n) (stF S z n) n + S 2 n else stF S z n n) = _
  rw [if_pos rfl]
theorem stF_o {S : jH} {z : Bool} {n q : Nat} (h : q ≠ n) : stF S z (n + 1) q = stF S z n q := by
  show (if q = n then mxW (stP S z n) (stF S z n) n + S 2 n else stF S z n q) = _
  rw [if_neg h]
def stv (S : jH) (z : Bool) (q : Nat) : Int := stF S z (q + 1) q
theorem stF_v {S : jH} {z : Bool} {q : Nat} : ∀ n, q < n → stF S z n q = stv S z q := by
  intro n
  induction n with
  | zero => intro h; omega
  | succ n ih =>
    intro h
    by_cases c : q = n
    · subst c; rfl
    · rw [stF_o c]; exact ih (by omega)
theorem stv_e {S : jH} {z : Bool} {q : Nat} : stv S z q = mxW (stP S z q) (stv S z) q + S 2 q := by
  rw [stv, stF_n, mxW_c q (fun k hk => stF_v q hk)]
theorem stv_b {S : jH} {z : Bool} {n : Nat} (hS : ∀ q, q < n → 0 ≤ S 2 q ∧ S 2 q ≤ 64) : ∀ m q, q < m → q < n → 0 ≤ stv S z q ∧ stv S z q ≤ 64 * ((q : Int) + 1) := by
  intro m
  induction m with
  | zero => intro q h; omega
  | succ m ih =>
    intro q h hq
    have a := hS q hq
    have b := mxW_b (P := stP S z q) (W := stv S z) (B := 64 * (q : Int)) (by omega) q (fun k hk => by have := (ih k (by omega) (by omega)).2; omega)
    rw [stv_e]
    omega
theorem st_eq {S : jH} {n : Nat} (hS : ∀ q, q < n → 0 ≤ S 2 q) : ∀ m q, q < m → q < n → (0 < S 2 q → stv S true q = stv S false q) ∧ (S 2 q = 0 → stv S false q = 0 ∧ (stv S true q = 0 ∨ ∃ k, k < q ∧ 0 < S 2 k ∧ S 1 k + S 2 k ≤ S 1 q ∧ stv S true q = stv S true k)) := by
  intro m
  induction m with
  | zero => intro q h; omega
  | succ m ih =>
    intro q h hq
    refine ⟨fun hp => ?_, fun hz => ⟨?_, ?_⟩⟩
    · rw [stv_e, stv_e (z := false)]
      have z1 := mxW_0 (P := stP S true q) (W := stv S true) q
      have z2 := mxW_0 (P := stP S false q) (W := stv S false) q
      have l1 : mxW (stP S true q) (stv S true) q ≤ mxW (stP S false q) (stv S false) q := by
        rcases mxW_a (P := stP S true q) (W := stv S true) q with e | ⟨k, k1, k2, k3⟩
        · omega
        · have i := ih k (by omega) (by omega)
          have ke := stP_t.mp k2
          have k0 := hS k (by omega)
          by_cases c : 0 < S 2 k
          · have u := mxW_u (P := stP S false q) (W := stv S false) q k k1 (stP_f.mpr ⟨ke, c, hp⟩)
            have := i.1 c
            omega
          · rcases (i.2 (by omega)).2 with d | ⟨k', d1, d2, d3, d4⟩
            · omega
            · have u := mxW_u (P := stP S false q) (W := stv S false) q k' (by omega) (stP_f.mpr ⟨by omega, d2, hp⟩)
              have := (ih k' (by omega) (by omega)).1 d2
              omega
      have l2 : mxW (stP S false q) (stv S false) q ≤ mxW (stP S true q) (stv S true) q := by
        rcases mxW_a (P := stP S false q) (W := stv S false) q with e | ⟨k, k1, k2, k3⟩
        · omega
        · have ke := stP_f.mp k2
          have u := mxW_u (P := stP S true q) (W := stv S true) q k k1 (stP_t.mpr ke.1)
          have := (ih k (by omega) (by omega)).1 ke.2.1
          omega
      omega
    · rw [stv_e]
      rcases mxW_a (P := stP S false q) (W := stv S false) q with e | ⟨k, k1, k2, k3⟩
      · omega
      · have ke := stP_f.mp k2
        omega
    · rw [stv_e]
      rcases mxW_a (P := stP S true q) (W := stv S true) q with e | ⟨k, k1, k2, k3⟩
      · exact Or.inl (by omega)
      · have ke := stP_t.mp k2
        have k0 := hS k (by omega)
        by_cases c : 0 < S 2 k
        · exact Or.inr ⟨k, k1, c, ke, by omega⟩
        · rcases ((ih k (by omega) (by omega)).2 (by omega)).2 with d | ⟨k', d1, d2, d3, d4⟩
          · exact Or.inl (by omega)
          · exact Or.inr ⟨k', by omega, d2, by omega, by omega⟩
def moS (S : jH) (z : Bool) (n : Nat) : Int := mxW (fun _ => true) (stv S z) n
theorem moS_s {S : jH} {z : Bool} {n : Nat} : moS S z (n + 1) = max (moS S z n) (stv S z n) := by
  unfold moS; rw [mxW, if_pos rfl]
theorem mo_eq {S : jH} {n : Nat} (hS : ∀ q, q < n → 0 ≤ S 2 q) : moS S true n = moS S false n := by
  have z1 := mxW_0 (P := fun _ => true) (W := stv S true) n
  have z2 := mxW_0 (P := fun _ => true) (W := stv S false) n
  have l1 : moS S true n ≤ moS S false n := by
    unfold moS
    rcases mxW_a (P := fun _ => true) (W := stv S true) n with e | ⟨k, k1, k2, k3⟩
    · omega
    · have i := st_eq hS n k k1 k1
      have k0 := hS k k1
      by_cases c : 0 < S 2 k
      · have u := mxW_u (P := fun _ => true) (W := stv S false) n k k1 rfl
        have := i.1 c
        omega
      · rcases (i.2 (by omega)).2 with d | ⟨k', d1, d2, d3, d4⟩
        · omega
        · have u := mxW_u (P := fun _ => true) (W := stv S false) n k' (by omega) rfl
          have := (st_eq hS n k' (by omega) (by omega)).1 d2
          omega
  have l2 : moS S false n ≤ moS S true n := by
    unfold moS
    rcases mxW_a (P := fun _ => true) (W := stv S false) n with e | ⟨k, k1, k2, k3⟩
    · omega
    · have i := st_eq hS n k k1 k1
      have k0 := hS k k1
      by_cases c : 0 < S 2 k
      · have u := mxW_u (P := fun _ => true) (W := stv S true) n k k1 rfl
        have := i.1 c
        omega
      · have := (i.2 (by omega)).1
        omega
  omega
def Ast (R : Nat → Int) (k : Int) : Int := if snd9 R k = true then moS (rS (slL R k)) true (rNp (slL R k)) else -1
def Dstay (s : jH) (k : Int) : Int × jH := (Ast (s 390) k, s)
theorem Ag.stay {s s' : jH} (h : Ag s s') (k : Int) : AgD (Dstay s k) (Dstay s' k) := AgD.rd h (by rw [h 390 (by decide)])
set_option maxRecDepth 20000 in
set_option maxHeartbeats 1000000 in
theorem k_so_A (l : Launch) (mem : jH) (S : jH) (n : Nat) (n99 : n ≤ 99) (sb : ∀ q, q < n → (0 ≤ S 1 q ∧ S 1 q ≤ 64) ∧ (0 ≤ S 2 q ∧ S 2 q ≤ 64)) (i : Nat) (hi9 : i < n) (kp : PTK mem S n) (hw9 : ∀ q, q < i → mem 378 q = stv S true q) (most : Int) (P : Option Value → jH → Prop) (hx : jT l 61 74 [some (.ref 377), some (.ref 339), some (.int (jI (most))), some (.int (jI ((i : Int)))), some (.int (jI (mxW (stP S true i) (stv S true) i))), some (.int (jI ((i : Int))))] [] mem P) : ∀ (m : Nat) (k : Nat), i - k < m → k ≤ i → jT l 61 24 [some (.ref 377), some (.ref 339), some (.int (jI (most))), some (.int (jI ((i : Int)))), some (.int (jI (mxW (stP S true i) (stv S true) k))), some (.int (jI ((k : Int))))] [] mem P := by
  have vb := fun q (hq : q < n) => stv_b (S := S) (z := true) (n := n) (fun q hq => (sb q hq).2) n q hq hq
  intro m
  induction m with
  | zero => intro k hk; omega
  | succ m ih =>
    intro k hk hi
    have k9 := kp
    have xb := mxW_b (P := stP S true i) (W := stv S true) (B := 6400) (by omega) k (fun q hq => by have := (vb q (by omega)).2; omega)
    have kf : i ≤ k ∨ (k < i ∧ mem 340 k = S 1 k ∧ mem 341 k = S 2 k ∧ mem 340 i = S 1 i ∧ mem 378 k = stv S true k ∧ 0 ≤ stv S true k ∧ stv S true k ≤ 6400 ∧ (0 ≤ S 1 k ∧ S 1 k ≤ 64) ∧ (0 ≤ S 2 k ∧ S 2 k ≤ 64) ∧ (0 ≤ S 1 i ∧ S 1 i ≤ 64)) := by
      by_cases c : k < i
      · have v := vb k (by omega)
        exact Or.inr ⟨c, (kp k (by omega)).1, (kp k (by omega)).2.1, (kp i hi9).1, hw9 k c, v.1, by omega, (sb k (by omega)).1, (sb k (by omega)).2, (sb i hi9).1⟩
      · exact Or.inl (by omega)
    refine tl_iload rfl rfl ?_
    refine tl_iload_n rfl rfl ?_
    refine tl_icmp_ge (tgt := 74) rfl rfl ⟨by omega, by omega⟩ ⟨by omega, by omega⟩ (fun c1 => ?_) (fun c1 => ?_)
    · skip
      show jT _ _ 74 _ _ _ _
      -- leaf 0 at 74
      have e : k = i := by omega
      subst e
      exact hx
    · show jT _ _ 30 _ _ _ _
      refine tl_aload_n rfl rfl ?_
      refine tl_getr (c := 6) (k9 := 5) (b := 340) rfl rfl rfl rfl ?_
      refine tl_iload rfl rfl ?_
      show jT _ _ 36 _ _ _ _
      refine tl_iald (n := 100) rfl rfl rfl (by omega) (by omega) ?_
      rw [Int.toNat_natCast, show mem 340 k = S 1 k by omega]
      refine tl_aload_n rfl rfl ?_
      refine tl_getr (c := 6) (k9 := 6) (b := 341) rfl rfl rfl rfl ?_
      refine tl_iload rfl rfl ?_
      refine tl_iald (n := 100) rfl rfl rfl (by omega) (by omega) ?_
      rw [Int.toNat_natCast, show mem 341 k = S 2 k by omega]
      refine tl_iadd rfl ?_
      refine tl_aload_n rfl rfl ?_
      show jT _ _ 46 _ _ _ _
      refine tl_getr (c := 6) (k9 := 5) (b := 340) rfl rfl rfl rfl ?_
      refine tl_iload_n rfl rfl ?_
      refine tl_iald (n := 100) rfl rfl rfl (by omega) (by omega) ?_
      rw [Int.toNat_natCast, show mem 340 i = S 1 i by omega]
      refine tl_icmp_gt (tgt := 68) rfl rfl ⟨by omega, by omega⟩ ⟨by omega, by omega⟩ (fun c2 => ?_) (fun c2 => ?_)
      · skip
        refine tl_iinc rfl rfl rfl ?_
        refine tl_goto (tgt := 24) rfl rfl ?_
        show jT _ _ 24 _ _ _ _
        -- leaf 1 at 24
        have e : mxW (stP S true i) (stv S true) (k + 1) = mxW (stP S true i) (stv S true) k := by rw [mxW, if_neg (fun w => by have := stP_t.mp w; omega)]
        have r := ih (k + 1) (by omega) (by omega)
        rw [e] at r
        exact r
      · show jT _ _ 54 _ _ _ _
        refine tl_iload rfl rfl ?_
        show jT _ _ 56 _ _ _ _
        refine tl_aload_n rfl rfl ?_
        refine tl_getr (c := 5) (k9 := 3) (b := 378) rfl rfl rfl rfl ?_
        refine tl_iload rfl rfl ?_
        refine tl_iald (n := 100) rfl rfl rfl (by omega) (by omega) ?_
        rw [Int.toNat_natCast, show mem 378 k = stv S true k by omega]
        refine tl_s2i (c_max l mem _ _ ⟨by omega, by omega⟩ ⟨by omega, by omega⟩) rfl rfl rfl (Nat.le_of_ble_eq_true rfl) (fun z1 h1 p1 => ?_)
        obtain ⟨q1, rfl⟩ := p1
        have q1 := q1.symm
        subst q1
        refine tl_istore rfl (Nat.le_of_ble_eq_true rfl) rfl ?_
        refine tl_iinc rfl rfl rfl ?_
        show jT _ _ 71 _ _ _ _
        refine tl_goto (tgt := 24) rfl rfl ?_
        show jT _ _ 24 _ _ _ _
        -- leaf 2 at 24
        have e : mxW (stP S true i) (stv S true) (k + 1) = max (mxW (stP S true i) (stv S true) k) (stv S true k) := by rw [mxW, if_pos (stP_t.mpr (by omega))]
        have r := ih (k + 1) (by omega) (by omega)
        rw [e] at r
        exact r
set_option maxRecDepth 20000 in
set_option maxHeartbeats 1000000 in
theorem k_so_B (l : Launch) (h : jH) (S : jH) (n : Nat) (n99 : n ≤ 99) (sb : ∀ q, q < n → (0 ≤ S 1 q ∧ S 1 q ≤ 64) ∧ (0 ≤ S 2 q ∧ S 2 q ≤ 64)) (hn : h 339 4 = (n : Int)) (kp : PTK h S n) (P : Option Value → jH → Prop) (hP : ∀ mem, (∀ x, x ≠ 378 → mem x = h x) → P (some (.int (jI (moS S true n)))) mem) : ∀ (m : Nat) (i : Nat) (mem : jH) (y4 : Option Value) (y5 : Option Value), n - i < m → (i ≤ n ∧ (∀ q, q < i → mem 378 q = stv S true q) ∧ ∀ x, x ≠ 378 → mem x = h x) → jT l 61 4 [some (.ref 377), some (.ref 339), some (.int (jI (moS S true i))), some (.int (jI ((i : Int)))), y4, y5] [] mem P := by
  have vb := fun q (hq : q < n) => stv_b (S := S) (z := true) (n := n) (fun q hq => (sb q hq).2) n q hq hq
  intro m
  induction m with
  | zero => intro i mem y4 y5 hk; omega
  | succ m ih =>
    intro i mem y4 y5 hk hi
    obtain ⟨i0, i1, fr⟩ := hi
    have e4 : mem 339 4 = (n : Int) := by rw [fr 339 (by decide)]; exact hn
    have kpm : PTK mem S n := kp.of (fun x x1 x2 => fr x (by omega))
    have mb := mxW_b (P := fun _ => true) (W := stv S true) (B := 6400) (by omega) i (fun q hq => by have := (vb q (by omega)).2; omega)
    change 0 ≤ moS S true i ∧ moS S true i ≤ 6400 at mb
    have xb := mxW_b (P := stP S true i) (W := stv S true) (B := 6400) (by omega) i (fun q hq => by have := (vb q (by omega)).2; omega)
    refine tl_iload_n rfl rfl ?_
    refine tl_aload_n rfl rfl ?_
    refine tl_geti (c := 6) (k9 := 4) rfl rfl rfl ?_
    rw [e4]
    refine tl_icmp_ge (tgt := 106) rfl rfl ⟨by omega, by omega⟩ ⟨by omega, by omega⟩ (fun c1 => ?_) (fun c1 => ?_)
    · skip
      refine tl_iload_n rfl rfl ?_
      refine tl_iret rfl ?_
      -- leaf 0 at 107
      have e : i = n := by omega
      subst e
      exact hP mem fr
    · show jT _ _ 12 _ _ _ _
      show jT _ _ 12 _ _ _ _
      refine tl_iload_n rfl rfl ?_
      refine tl_bipush rfl rfl ?_
      refine tl_icmp_ge (tgt := 106) rfl rfl ⟨by omega, by omega⟩ ⟨by omega, by omega⟩ (fun c2 => ?_) (fun c2 => ?_)
      · skip
        refine tl_iload_n rfl rfl ?_
        refine tl_iret rfl ?_
        -- leaf 1 at 107
        have e : i = n := by omega
        subst e
        exact hP mem fr
      · show jT _ _ 18 _ _ _ _
        refine tl_iconst rfl ?_
        refine tl_istore rfl (Nat.le_of_ble_eq_true rfl) rfl ?_
        show jT _ _ 21 _ _ _ _
        refine tl_iconst rfl ?_
        refine tl_istore rfl (Nat.le_of_ble_eq_true rfl) rfl ?_
        show jT _ _ 24 _ _ _ _
        -- leaf 2 at 24
        have hi9 : i < n := by omega
        have vi := vb i hi9
        have si := (sb i hi9).2
        have ei := stv_e (S := S) (z := true) (q := i)
        refine k_so_A l mem S n n99 sb i hi9 kpm i1 _ _ ?_ _ 0 (Nat.lt_succ_self _) (Nat.zero_le _)
        refine tl_aload_n rfl rfl ?_
        refine tl_getr (c := 5) (k9 := 3) (b := 378) rfl rfl rfl rfl ?_
        refine tl_iload_n rfl rfl ?_
        refine tl_iload rfl rfl ?_
        refine tl_aload_n rfl rfl ?_
        refine tl_getr (c := 6) (k9 := 6) (b := 341) rfl rfl rfl rfl ?_
        show jT _ _ 85 _ _ _ _
        refine tl_iload_n rfl rfl ?_
        refine tl_iald (n := 100) rfl rfl rfl (by omega) (by omega) ?_
        rw [Int.toNat_natCast, (kpm i hi9).2.1]
        refine tl_iadd rfl ?_
        refine tl_iast (n := 100) rfl rfl rfl (by omega) (by omega) ?_
        rw [Int.toNat_natCast, ← ei]
        refine tl_iload_n rfl rfl ?_
        refine tl_aload_n rfl rfl ?_
        refine tl_getr (c := 5) (k9 := 3) (b := 378) rfl rfl rfl rfl ?_
        show jT _ _ 94 _ _ _ _
        refine tl_iload_n rfl rfl ?_
        refine tl_iald (n := 100) rfl rfl rfl (by omega) (by omega) ?_
        rw [Int.toNat_natCast, hs_s]
        refine tl_s2i (c_max l _ _ _ ⟨by omega, by omega⟩ ⟨by omega, by omega⟩) rfl rfl rfl (Nat.le_of_ble_eq_true rfl) (fun z1 h1 p1 => ?_)
        obtain ⟨q1, rfl⟩ := p1
        have q1 := q1.symm
        subst q1
        refine tl_istore_n rfl (Nat.le_of_ble_eq_true rfl) rfl ?_
        refine tl_iinc rfl rfl rfl ?_
        refine tl_goto (tgt := 4) rfl rfl ?_
        show jT _ _ 4 _ _ _ _
        -- leaf 0 at 4
        rw [← moS_s]
        refine ih (i + 1) _ _ _ (by omega) ⟨by omega, fun q hq => ?_, fun x hx => by rw [hs_O hx]; exact fr x hx⟩
        by_cases c : q = i
        · subst c; rw [hs_s]
        · rw [hs_k c]; exact i1 q (by omega)
set_option maxRecDepth 20000 in
set_option maxHeartbeats 1000000 in
theorem k_mostIn (l : Launch) (h : jH) (S : jH) (n : Nat) (n99 : n ≤ 99) (sb : ∀ q, q < n → (0 ≤ S 1 q ∧ S 1 q ≤ 64) ∧ (0 ≤ S 2 q ∧ S 2 q ≤ 64)) (hn : h 339 4 = (n : Int)) (kp : PTK h S n) : cI l 61 [.ref 377, .ref 339] h (fun z h' => z = moS S true n ∧ ∀ x, x ≠ 378 → h' x = h x) := by
  refine cI.of rfl rfl ?_
  refine tl_iconst rfl ?_
  refine tl_istore_n rfl (Nat.le_of_ble_eq_true rfl) rfl ?_
  refine tl_iconst rfl ?_
  refine tl_istore_n rfl (Nat.le_of_ble_eq_true rfl) rfl ?_
  show jT _ _ 4 _ _ _ _
  -- leaf 0 at 4
  exact k_so_B l h S n n99 sb hn kp _ (fun mem fr => ⟨_, rfl, rfl, fr⟩) _ 0 h _ _ (Nat.lt_succ_self _) ⟨Nat.zero_le _, fun q hq => absurd hq (by omega), fun _ _ => rfl⟩
set_option maxRecDepth 20000 in
set_option maxHeartbeats 1000000 in
theorem k_stay (l : Launch) (h s : jH) (t k : Int) (hI : IC h s t) (hk : jr k) : cI l 180 [.ref 0, .int (jI k)] h (PK h t (Dstay s k)) := by
  have k1 := hk.1
  have k2 := hk.2
  refine cI.of rfl rfl ?_
  refine tl_aload_n rfl rfl ?_
  refine tl_iload_n rfl rfl ?_
  refine tl_v1i (c9 := 11) (k_isSound l h (s 390) hI.1 k ⟨by omega, by omega⟩) rfl rfl rfl rfl rfl (Nat.le_of_ble_eq_true rfl) (fun z1 h1 p1 => ?_)
  obtain ⟨e1, g1, f1⟩ := p1
  have b1 := zb_b (snd9 (s 390) k)
  subst e1
  refine tl_if_eq (tgt := 22) rfl rfl ⟨by omega, by omega⟩ (fun c1 => ?_) (fun c1 => ?_)
  · skip
    have es := zb0 c1
    refine tl_iconst rfl ?_
    refine tl_iret rfl ?_
    -- leaf 0 at 23
    refine ⟨_, rfl, ?_⟩
    have e : Ast (s 390) k = -1 := by rw [Ast, if_neg (by rw [es]; decide)]
    rw [Dstay, e]
    exact PK.rd hI (KF.rd9 f1)
  · show jT _ _ 8 _ _ _ _
    have es := zb1' c1
    show jT _ _ 8 _ _ _ _
    refine tl_aload_n rfl rfl ?_
    refine tl_getr (c := 11) (k9 := 17) (b := 377) rfl rfl rfl rfl ?_
    refine tl_aload_n rfl rfl ?_
    refine tl_getr (c := 11) (k9 := 13) (b := 339) rfl rfl rfl rfl ?_
    refine tl_v1i (c9 := 5) (k_mostIn l h1 (rS (slL (s 390) k)) (rNp (slL (s 390) k)) (sd_1 hI.sok es).2.1 (fun q hq => by have a := sd_2 hI.sok es hq; exact ⟨a.1, a.2.1⟩) (g1 es).1.2.2.2.2 (g1 es).2.1) rfl rfl rfl rfl rfl (Nat.le_of_ble_eq_true rfl) (fun z2 h2 p2 => ?_)
    obtain ⟨e2, f2⟩ := p2
    subst e2
    refine tl_goto (tgt := 23) rfl rfl ?_
    refine tl_iret rfl ?_
    -- leaf 1 at 23
    refine ⟨_, rfl, ?_⟩
    have e : Ast (s 390) k = moS (rS (slL (s 390) k)) true (rNp (slL (s 390) k)) := by rw [Ast, if_pos es]
    rw [Dstay, e]
    exact PK.rd hI (KF.of (fun x hx => by rw [f2 x (by omega), f1 x (by omega)]))
set_option maxRecDepth 20000 in
set_option maxHeartbeats 1000000 in
theorem r_so_A (l : Launch) (h : jH) (S : jH) (n : Nat) (n99 : n ≤ 99) (sb : ∀ q, q < n → (0 ≤ S 1 q ∧ S 1 q ≤ 64) ∧ (0 ≤ S 2 q ∧ S 2 q ≤ 64)) (i : Nat) (hi9 : i < n) (kp : PTR h S n) (hw9 : ∀ q, q < i → h 432 q = stv S false q) (most sl9 : Int) (P : Option Value → jH → Prop) (hx : ∀ mem y5, ((∀ q, q < i + 1 → mem 432 q = stv S false q) ∧ ∀ x, x ≠ 432 → mem x = h x) → jT l 347 161 [some (.ref 388), some (.int (jI (sl9))), some (.int (jI (most))), some (.int (jI ((i : Int)))), some (.int (jI ((i : Int)))), y5] [] mem P) : ∀ (m : Nat) (k : Nat) (mem : jH) (y5 : Option Value), i - k < m → (k ≤ i ∧ (∀ q, q < i → mem 432 q = stv S false q) ∧ mem 432 i = S 2 i + mxW (stP S false i) (stv S false) k ∧ ∀ x, x ≠ 432 → mem x = h x) → jT l 347 42 [some (.ref 388), some (.int (jI (sl9))), some (.int (jI (most))), some (.int (jI ((i : Int)))), some (.int (jI ((k : Int)))), y5] [] mem P := by
  have vb := fun q (hq : q < n) => stv_b (S := S) (z := false) (n := n) (fun q hq => (sb q hq).2) n q hq hq
  intro m
  induction m with
  | zero => intro k mem y5 hk; omega
  | succ m ih =>
    intro k mem y5 hk hi
    obtain ⟨i0, i1, i2, fr⟩ := hi
    have kpm : PTR mem S n := kp.of (fun x x1 x2 => fr x (by omega))
    have xb := mxW_b (P := stP S false i) (W := stv S false) (B := 6400) (by omega) k (fun q hq => by have := (vb q (by omega)).2; omega)
    have pe : (S 1 k + S 2 k ≤ S 1 i ∧ 0 < S 2 k ∧ 0 < S 2 i ∧ mxW (stP S false i) (stv S false) (k + 1) = max (mxW (stP S false i) (stv S false) k) (stv S false k)) ∨ (¬ (S 1 k + S 2 k ≤ S 1 i ∧ 0 < S 2 k ∧ 0 < S 2 i) ∧ mxW (stP S false i) (stv S false) (k + 1) = mxW (stP S false i) (stv S false) k) := by
      by_cases c : S 1 k + S 2 k ≤ S 1 i ∧ 0 < S 2 k ∧ 0 < S 2 i
      · exact Or.inl ⟨c.1, c.2.1, c.2.2, by rw [mxW, if_pos (stP_f.mpr c)]⟩
      · exact Or.inr ⟨c, by rw [mxW, if_neg (fun w => c (stP_f.mp w))]⟩
    have kf : i ≤ k ∨ (k < i ∧ mem 408 k = S 1 k ∧ mem 409 k = S 2 k ∧ mem 408 i = S 1 i ∧ mem 409 i = S 2 i ∧ mem 432 k = stv S false k ∧ 0 ≤ stv S false k ∧ stv S false k ≤ 6400 ∧ (0 ≤ S 1 k ∧ S 1 k ≤ 64) ∧ (0 ≤ S 2 k ∧ S 2 k ≤ 64) ∧ (0 ≤ S 1 i ∧ S 1 i ≤ 64) ∧ (0 ≤ S 2 i ∧ S 2 i ≤ 64)) := by
      by_cases c : k < i
      · have v := vb k (by omega)
        exact Or.inr ⟨c, (kpm k (by omega)).1, (kpm k (by omega)).2.1, (kpm i hi9).1, (kpm i hi9).2.1, i1 k c, v.1, by omega, (sb k (by omega)).1, (sb k (by omega)).2, (sb i hi9).1, (sb i hi9).2⟩
      · exact Or.inl (by omega)
    refine tl_iload rfl rfl ?_
    refine tl_iload_n rfl rfl ?_
    refine tl_icmp_ge (tgt := 161) rfl rfl ⟨by omega, by omega⟩ ⟨by omega, by omega⟩ (fun c1 => ?_) (fun c1 => ?_)
    · skip
      show jT _ _ 161 _ _ _ _
      -- leaf 0 at 161
      have e : k = i := by omega
      subst e
      refine hx mem _ ⟨fun q hq => ?_, fr⟩
      by_cases c : q = k
      · subst c; rw [i2, stv_e]; omega
      · exact i1 q (by omega)
    · show jT _ _ 48 _ _ _ _
      refine tl_aload_n rfl rfl ?_
      refine tl_getr (c := 12) (k9 := 40) (b := 409) rfl rfl rfl rfl ?_
      refine tl_iload rfl rfl ?_
      show jT _ _ 54 _ _ _ _
      refine tl_iald (n := 100) rfl rfl rfl (by omega) (by omega) ?_
      rw [Int.toNat_natCast, show mem 409 k = S 2 k by omega]
      refine tl_if_le (tgt := 95) rfl rfl ⟨by omega, by omega⟩ (fun c2 => ?_) (fun c2 => ?_)
      · skip
        refine tl_iconst rfl ?_
        refine tl_istore rfl (Nat.le_of_ble_eq_true rfl) rfl ?_
        refine tl_aload_n rfl rfl ?_
        refine tl_getr (c := 12) (k9 := 80) (b := 432) rfl rfl rfl rfl ?_
        refine tl_iload_n rfl rfl ?_
        show jT _ _ 103 _ _ _ _
        refine tl_iload rfl rfl ?_
        refine tl_if_eq (tgt := 148) rfl rfl ⟨by omega, by omega⟩ (fun c3 => ?_) (fun c3 => ?_)
        · skip
          refine tl_aload_n rfl rfl ?_
          refine tl_getr (c := 12) (k9 := 80) (b := 432) rfl rfl rfl rfl ?_
          refine tl_iload_n rfl rfl ?_
          refine tl_iald (n := 100) rfl rfl rfl (by omega) (by omega) ?_
          rw [Int.toNat_natCast, i2]
          refine tl_iast (n := 100) rfl rfl rfl (by omega) (by omega) ?_
          rw [Int.toNat_natCast]
          show jT _ _ 155 _ _ _ _
          refine tl_iinc rfl rfl rfl ?_
          refine tl_goto (tgt := 42) rfl rfl ?_
          show jT _ _ 42 _ _ _ _
          -- leaf 1 at 42
          refine ih (k + 1) _ _ (by omega) ⟨by omega, fun q hq => by rw [hs_k (by omega)]; exact i1 q hq, by rw [hs_s]; omega, fun x hx9 => by rw [hs_O hx9]; exact fr x hx9⟩
        · show jT _ _ 108 _ _ _ _
          exfalso; omega
      · show jT _ _ 58 _ _ _ _
        refine tl_aload_n rfl rfl ?_
        refine tl_getr (c := 12) (k9 := 40) (b := 409) rfl rfl rfl rfl ?_
        refine tl_iload_n rfl rfl ?_
        refine tl_iald (n := 100) rfl rfl rfl (by omega) (by omega) ?_
        rw [Int.toNat_natCast, show mem 409 i = S 2 i by omega]
        refine tl_if_le (tgt := 95) rfl rfl ⟨by omega, by omega⟩ (fun c4 => ?_) (fun c4 => ?_)
        · skip
          show jT _ _ 95 _ _ _ _
          refine tl_iconst rfl ?_
          refine tl_istore rfl (Nat.le_of_ble_eq_true rfl) rfl ?_
          refine tl_aload_n rfl rfl ?_
          refine tl_getr (c := 12) (k9 := 80) (b := 432) rfl rfl rfl rfl ?_
          refine tl_iload_n rfl rfl ?_
          refine tl_iload rfl rfl ?_
          refine tl_if_eq (tgt := 148) rfl rfl ⟨by omega, by omega⟩ (fun c5 => ?_) (fun c5 => ?_)
          · skip
            show jT _ _ 148 _ _ _ _
            refine tl_aload_n rfl rfl ?_
            refine tl_getr (c := 12) (k9 := 80) (b := 432) rfl rfl rfl rfl ?_
            refine tl_iload_n rfl rfl ?_
            refine tl_iald (n := 100) rfl rfl rfl (by omega) (by omega) ?_
            rw [Int.toNat_natCast, i2]
            refine tl_iast (n := 100) rfl rfl rfl (by omega) (by omega) ?_
            rw [Int.toNat_natCast]
            refine tl_iinc rfl rfl rfl ?_
            refine tl_goto (tgt := 42) rfl rfl ?_
            show jT _ _ 42 _ _ _ _
            -- leaf 2 at 42
            refine ih (k + 1) _ _ (by omega) ⟨by omega, fun q hq => by rw [hs_k (by omega)]; exact i1 q hq, by rw [hs_s]; omega, fun x hx9 => by rw [hs_O hx9]; exact fr x hx9⟩
          · show jT _ _ 108 _ _ _ _
            exfalso; omega
        · show jT _ _ 67 _ _ _ _
          show jT _ _ 67 _ _ _ _
          refine tl_aload_n rfl rfl ?_
          refine tl_getr (c := 12) (k9 := 39) (b := 408) rfl rfl rfl rfl ?_
          refine tl_iload rfl rfl ?_
          refine tl_iald (n := 100) rfl rfl rfl (by omega) (by omega) ?_
          rw [Int.toNat_natCast, show mem 408 k = S 1 k by omega]
          refine tl_aload_n rfl rfl ?_
          refine tl_getr (c := 12) (k9 := 40) (b := 409) rfl rfl rfl rfl ?_
          refine tl_iload rfl rfl ?_
          show jT _ _ 80 _ _ _ _
          refine tl_iald (n := 100) rfl rfl rfl (by omega) (by omega) ?_
          rw [Int.toNat_natCast, show mem 409 k = S 2 k by omega]
          refine tl_iadd rfl ?_
          refine tl_aload_n rfl rfl ?_
          refine tl_getr (c := 12) (k9 := 39) (b := 408) rfl rfl rfl rfl ?_
          refine tl_iload_n rfl rfl ?_
          refine tl_iald (n := 100) rfl rfl rfl (by omega) (by omega) ?_
          rw [Int.toNat_natCast, show mem 408 i = S 1 i by omega]
          refine tl_icmp_gt (tgt := 95) rfl rfl ⟨by omega, by omega⟩ ⟨by omega, by omega⟩ (fun c6 => ?_) (fun c6 => ?_)
          · skip
            show jT _ _ 95 _ _ _ _
            refine tl_iconst rfl ?_
            refine tl_istore rfl (Nat.le_of_ble_eq_true rfl) rfl ?_
            refine tl_aload_n rfl rfl ?_
            refine tl_getr (c := 12) (k9 := 80) (b := 432) rfl rfl rfl rfl ?_
            refine tl_iload_n rfl rfl ?_
            refine tl_iload rfl rfl ?_
            refine tl_if_eq (tgt := 148) rfl rfl ⟨by omega, by omega⟩ (fun c7 => ?_) (fun c7 => ?_)
            · skip
              show jT _ _ 148 _ _ _ _
              refine tl_aload_n rfl rfl ?_
              refine tl_getr (c := 12) (k9 := 80) (b := 432) rfl rfl rfl rfl ?_
              refine tl_iload_n rfl rfl ?_
              refine tl_iald (n := 100) rfl rfl rfl (by omega) (by omega) ?_
              rw [Int.toNat_natCast, i2]
              refine tl_iast (n := 100) rfl rfl rfl (by omega) (by omega) ?_
              rw [Int.toNat_natCast]
              refine tl_iinc rfl rfl rfl ?_
              refine tl_goto (tgt := 42) rfl rfl ?_
              show jT _ _ 42 _ _ _ _
              -- leaf 3 at 42
              refine ih (k + 1) _ _ (by omega) ⟨by omega, fun q hq => by rw [hs_k (by omega)]; exact i1 q hq, by rw [hs_s]; omega, fun x hx9 => by rw [hs_O hx9]; exact fr x hx9⟩
            · show jT _ _ 108 _ _ _ _
              exfalso; omega
          · show jT _ _ 91 _ _ _ _
            show jT _ _ 91 _ _ _ _
            refine tl_iconst rfl ?_
            refine tl_goto (tgt := 96) rfl rfl ?_
            refine tl_istore rfl (Nat.le_of_ble_eq_true rfl) rfl ?_
            refine tl_aload_n rfl rfl ?_
            refine tl_getr (c := 12) (k9 := 80) (b := 432) rfl rfl rfl rfl ?_
            refine tl_iload_n rfl rfl ?_
            refine tl_iload rfl rfl ?_
            show jT _ _ 105 _ _ _ _
            refine tl_if_eq (tgt := 148) rfl rfl ⟨by omega, by omega⟩ (fun c8 => ?_) (fun c8 => ?_)
            · skip
              exfalso; omega
            · show jT _ _ 108 _ _ _ _
              refine tl_aload_n rfl rfl ?_
              refine tl_getr (c := 12) (k9 := 80) (b := 432) rfl rfl rfl rfl ?_
              refine tl_iload rfl rfl ?_
              refine tl_iald (n := 100) rfl rfl rfl (by omega) (by omega) ?_
              rw [Int.toNat_natCast, show mem 432 k = stv S false k by omega]
              refine tl_aload_n rfl rfl ?_
              refine tl_getr (c := 12) (k9 := 40) (b := 409) rfl rfl rfl rfl ?_
              show jT _ _ 119 _ _ _ _
              refine tl_iload_n rfl rfl ?_
              refine tl_iald (n := 100) rfl rfl rfl (by omega) (by omega) ?_
              rw [Int.toNat_natCast, show mem 409 i = S 2 i by omega]
              refine tl_iadd rfl ?_
              refine tl_aload_n rfl rfl ?_
              refine tl_getr (c := 12) (k9 := 80) (b := 432) rfl rfl rfl rfl ?_
              refine tl_iload_n rfl rfl ?_
              refine tl_iald (n := 100) rfl rfl rfl (by omega) (by omega) ?_
              rw [Int.toNat_natCast, i2]
              show jT _ _ 128 _ _ _ _
              refine tl_icmp_le (tgt := 148) rfl rfl ⟨by omega, by omega⟩ ⟨by omega, by omega⟩ (fun c9 => ?_) (fun c9 => ?_)
              · skip
                refine tl_aload_n rfl rfl ?_
                refine tl_getr (c := 12) (k9 := 80) (b := 432) rfl rfl rfl rfl ?_
                refine tl_iload_n rfl rfl ?_
                refine tl_iald (n := 100) rfl rfl rfl (by omega) (by omega) ?_
                rw [Int.toNat_natCast, i2]
                refine tl_iast (n := 100) rfl rfl rfl (by omega) (by omega) ?_
                rw [Int.toNat_natCast]
                refine tl_iinc rfl rfl rfl ?_
                show jT _ _ 158 _ _ _ _
                refine tl_goto (tgt := 42) rfl rfl ?_
                show jT _ _ 42 _ _ _ _
                -- leaf 4 at 42
                refine ih (k + 1) _ _ (by omega) ⟨by omega, fun q hq => by rw [hs_k (by omega)]; exact i1 q hq, by rw [hs_s]; omega, fun x hx9 => by rw [hs_O hx9]; exact fr x hx9⟩
              · show jT _ _ 131 _ _ _ _
                refine tl_aload_n rfl rfl ?_
                refine tl_getr (c := 12) (k9 := 80) (b := 432) rfl rfl rfl rfl ?_
                refine tl_iload rfl rfl ?_
                refine tl_iald (n := 100) rfl rfl rfl (by omega) (by omega) ?_
                rw [Int.toNat_natCast, show mem 432 k = stv S false k by omega]
                refine tl_aload_n rfl rfl ?_
                refine tl_getr (c := 12) (k9 := 40) (b := 409) rfl rfl rfl rfl ?_
                show jT _ _ 142 _ _ _ _
                refine tl_iload_n rfl rfl ?_
                refine tl_iald (n := 100) rfl rfl rfl (by omega) (by omega) ?_
                rw [Int.toNat_natCast, show mem 409 i = S 2 i by omega]
                refine tl_iadd rfl ?_
                refine tl_goto (tgt := 154) rfl rfl ?_
                refine tl_iast (n := 100) rfl rfl rfl (by omega) (by omega) ?_
                rw [Int.toNat_natCast]
                refine tl_iinc rfl rfl rfl ?_
                refine tl_goto (tgt := 42) rfl rfl ?_
                show jT _ _ 42 _ _ _ _
                -- leaf 5 at 42
                refine ih (k + 1) _ _ (by omega) ⟨by omega, fun q hq => by rw [hs_k (by omega)]; exact i1 q hq, by rw [hs_s]; omega, fun x hx9 => by rw [hs_O hx9]; exact fr x hx9⟩
set_option maxRecDepth 20000 in
set_option maxHeartbeats 1000000 in
theorem r_so_B (l : Launch) (h : jH) (S : jH) (n : Nat) (n99 : n ≤ 99) (sb : ∀ q, q < n → (0 ≤ S 1 q ∧ S 1 q ≤ 64) ∧ (0 ≤ S 2 q ∧ S 2 q ≤ 64)) (hn : h 388 38 = (n : Int)) (kp : PTR h S n) (sl9 : Int) (P : Option Value → jH → Prop) (hP : ∀ mem, (∀ x, x ≠ 432 → mem x = h x) → P (some (.int (jI (moS S false n)))) mem) : ∀ (m : Nat) (i : Nat) (mem : jH) (y4 : Option Value) (y5 : Option Value), n - i < m → (i ≤ n ∧ (∀ q, q < i → mem 432 q = stv S false q) ∧ ∀ x, x ≠ 432 → mem x = h x) → jT l 347 19 [some (.ref 388), some (.int (jI (sl9))), some (.int (jI (moS S false i))), some (.int (jI ((i : Int)))), y4, y5] [] mem P := by
  have vb := fun q (hq : q < n) => stv_b (S := S) (z := false) (n := n) (fun q hq => (sb q hq).2) n q hq hq
  intro m
  induction m with
  | zero => intro i mem y4 y5 hk; omega
  | succ m ih =>
    intro i mem y4 y5 hk hi
    obtain ⟨i0, i1, fr⟩ := hi
    have e4 : mem 388 38 = (n : Int) := by rw [fr 388 (by decide)]; exact hn
    have kpm : PTR mem S n := kp.of (fun x x1 x2 => fr x (by omega))
    have mb := mxW_b (P := fun _ => true) (W := stv S false) (B := 6400) (by omega) i (fun q hq => by have := (vb q (by omega)).2; omega)
    change 0 ≤ moS S false i ∧ moS S false i ≤ 6400 at mb
    refine tl_iload_n rfl rfl ?_
    refine tl_aload_n rfl rfl ?_
    refine tl_geti (c := 12) (k9 := 38) rfl rfl rfl ?_
    rw [e4]
    refine tl_icmp_ge (tgt := 188) rfl rfl ⟨by omega, by omega⟩ ⟨by omega, by omega⟩ (fun c1 => ?_) (fun c1 => ?_)
    · skip
      refine tl_iload_n rfl rfl ?_
      refine tl_iret rfl ?_
      -- leaf 0 at 189
      have e : i = n := by omega
      subst e
      exact hP mem fr
    · show jT _ _ 27 _ _ _ _
      show jT _ _ 27 _ _ _ _
      refine tl_aload_n rfl rfl ?_
      refine tl_getr (c := 12) (k9 := 80) (b := 432) rfl rfl rfl rfl ?_
      refine tl_iload_n rfl rfl ?_
      refine tl_aload_n rfl rfl ?_
      refine tl_getr (c := 12) (k9 := 40) (b := 409) rfl rfl rfl rfl ?_
      refine tl_iload_n rfl rfl ?_
      refine tl_iald (n := 100) rfl rfl rfl (by omega) (by omega) ?_
      rw [Int.toNat_natCast, (kpm i (by omega)).2.1]
      show jT _ _ 38 _ _ _ _
      refine tl_iast (n := 100) rfl rfl rfl (by omega) (by omega) ?_
      rw [Int.toNat_natCast]
      refine tl_iconst rfl ?_
      refine tl_istore rfl (Nat.le_of_ble_eq_true rfl) rfl ?_
      show jT _ _ 42 _ _ _ _
      -- leaf 1 at 42
      have hi9 : i < n := by omega
      have vi := vb i hi9
      refine r_so_A l (hs mem 432 i (S 2 i)) S n n99 sb i hi9 (kpm.of (fun x x1 x2 => hs_O (by omega))) (fun q hq => by rw [hs_k (by omega)]; exact i1 q hq) _ sl9 _ (fun mem2 y5 hj => ?_) _ 0 _ _ (Nat.lt_succ_self _) ⟨Nat.zero_le _, fun q hq => by rw [hs_k (by omega)]; exact i1 q hq, by rw [hs_s]; show S 2 i = S 2 i + 0; omega, fun _ _ => rfl⟩
      obtain ⟨j1, j2⟩ := hj
      have ms := moS_s (S := S) (z := false) (n := i)
      refine tl_aload_n rfl rfl ?_
      refine tl_getr (c := 12) (k9 := 80) (b := 432) rfl rfl rfl rfl ?_
      refine tl_iload_n rfl rfl ?_
      refine tl_iald (n := 100) rfl rfl rfl (by omega) (by omega) ?_
      rw [Int.toNat_natCast, j1 i (by omega)]
      refine tl_iload_n rfl rfl ?_
      refine tl_icmp_le (tgt := 180) rfl rfl ⟨by omega, by omega⟩ ⟨by omega, by omega⟩ (fun c1 => ?_) (fun c1 => ?_)
      · skip
        show jT _ _ 180 _ _ _ _
        refine tl_iload_n rfl rfl ?_
        refine tl_istore_n rfl (Nat.le_of_ble_eq_true rfl) rfl ?_
        refine tl_iinc rfl rfl rfl ?_
        refine tl_goto (tgt := 19) rfl rfl ?_
        show jT _ _ 19 _ _ _ _
        -- leaf 0 at 19
        rw [show moS S false i = moS S false (i + 1) by omega]
        exact ih (i + 1) mem2 _ _ (by omega) ⟨by omega, j1, fun x hx => by rw [j2 x hx, hs_O hx]; exact fr x hx⟩
      · show jT _ _ 171 _ _ _ _
        refine tl_aload_n rfl rfl ?_
        refine tl_getr (c := 12) (k9 := 80) (b := 432) rfl rfl rfl rfl ?_
        refine tl_iload_n rfl rfl ?_
        show jT _ _ 176 _ _ _ _
        refine tl_iald (n := 100) rfl rfl rfl (by omega) (by omega) ?_
        rw [Int.toNat_natCast, j1 i (by omega)]
        refine tl_goto (tgt := 181) rfl rfl ?_
        refine tl_istore_n rfl (Nat.le_of_ble_eq_true rfl) rfl ?_
        refine tl_iinc rfl rfl rfl ?_
        refine tl_goto (tgt := 19) rfl rfl ?_
        show jT _ _ 19 _ _ _ _
        -- leaf 1 at 19
        rw [show stv S false i = moS S false (i + 1) by omega]
        exact ih (i + 1) mem2 _ _ (by omega) ⟨by omega, j1, fun x hx => by rw [j2 x hx, hs_O hx]; exact fr x hx⟩
set_option maxRecDepth 20000 in
set_option maxHeartbeats 1000000 in
theorem r_stay (l : Launch) (g h : jH) (t k : Int) (hI0 : IC g h t) (hk : jr k) : cI l 347 [.ref 388, .int (jI k)] h (PRF (Dstay (Tz h) k)) := by
  have k1 := hk.1
  have k2 := hk.2
  refine cI.of rfl rfl ?_
  refine tl_aload_n rfl rfl ?_
  refine tl_iconst rfl ?_
  refine tl_puti (c := 12) (k9 := 0) rfl rfl rfl rfl ?_
  have hI := hI0.z
  change jT _ _ _ _ _ (Tz h) _
  generalize Tz h = m at hI ⊢
  refine tl_aload_n rfl rfl ?_
  refine tl_iload_n rfl rfl ?_
  refine tl_v1i (c9 := 12) (r_isRead l m (m 390) rfl hI.ok hI.sok k ⟨by omega, by omega⟩) rfl rfl rfl rfl rfl (Nat.le_of_ble_eq_true rfl) (fun z1 h1 p1 => ?_)
  obtain ⟨e1, g1, f1⟩ := p1
  have b1 := zb_b (snd9 (m 390) k)
  subst e1
  show jT _ _ 10 _ _ _ _
  refine tl_if_ne (tgt := 15) rfl rfl ⟨by omega, by omega⟩ (fun c1 => ?_) (fun c1 => ?_)
  · skip
    have es := zb1 c1
    refine tl_iconst rfl ?_
    refine tl_istore_n rfl (Nat.le_of_ble_eq_true rfl) rfl ?_
    refine tl_iconst rfl ?_
    refine tl_istore_n rfl (Nat.le_of_ble_eq_true rfl) rfl ?_
    show jT _ _ 19 _ _ _ _
    -- leaf 0 at 19
    refine r_so_B l h1 (rS (slL (m 390) k)) (rNp (slL (m 390) k)) (sd_1 hI.sok es).2.1 (fun q hq => by have a := sd_2 hI.sok es hq; exact ⟨a.1, a.2.1⟩) (g1 es).1.2.2.2.2 (g1 es).2.1 k _ (fun mem fr => ?_) _ 0 h1 _ _ (Nat.lt_succ_self _) ⟨Nat.zero_le _, fun q hq => absurd hq (by omega), fun _ _ => rfl⟩
    refine ⟨_, rfl, ?_⟩
    have e : Ast (m 390) k = moS (rS (slL (m 390) k)) false (rNp (slL (m 390) k)) := by rw [Ast, if_pos es, mo_eq (fun q hq => (sd_2 hI.sok es hq).2.1.1)]
    rw [Dstay, e]
    exact PRF.rd (f1.rf.trans (RF.of (fun x hx => fr x (by omega)) (fun q hq => by rw [fr 388 (by decide)])))
  · show jT _ _ 13 _ _ _ _
    have es := zb0' c1
    refine tl_iconst rfl ?_
    refine tl_iret rfl ?_
    -- leaf 1 at 14
    refine ⟨_, rfl, ?_⟩
    have e : Ast (m 390) k = -1 := by rw [Ast, if_neg (by rw [es]; decide)]
    rw [Dstay, e]
    exact PRF.rd f1.rf
