/-! Row, further: the row as a whole is put -/
/-- the row r (its numbers at a) has n numbers, those of f -/
def rput (h : jH) (r a : Nat) (n : Int) (f : Nat → Int) : jH := hw (hs h r 1 n) a f
theorem rput_n {h : jH} {r a : Nat} {n : Int} {f : Nat → Int} (hne : r ≠ a) : rput h r a n f r 1 = n := by simp [rput, hw, hs, hne]
theorem rput_a {h : jH} {r a : Nat} {n : Int} {f : Nat → Int} : rput h r a n f a = f := by simp [rput, hw]
theorem rput_o {h : jH} {r a x : Nat} {n : Int} {f : Nat → Int} (h1 : x ≠ r) (h2 : x ≠ a) : rput h r a n f x = h x := by
  funext q
  simp [rput, hw, hs, h1, h2]
theorem rput_ext {h : jH} {r a : Nat} {n n' : Int} {f f' : Nat → Int} (hn : n = n') (hf : ∀ i, f i = f' i) : rput h r a n f = rput h r a n' f' := by
  rw [hn, show f = f' from funext hf]
theorem rput_add {h : jH} {r a : Nat} {k : Nat} {n x m : Int} {f : Nat → Int} (hne : r ≠ a) : hs (hs (rput h r a n f) a k x) r 1 m = rput h r a m (fun i => if i = k then x else f i) := by
  funext p q
  simp only [rput, hw, hs]
  by_cases hp : p = r
  · subst hp
    simp [hne, hs]
    by_cases hq : q = 1 <;> simp [hq]
  · by_cases hp2 : p = a
    · subst hp2
      simp [hp]
    · simp [hp, hp2, hs]
theorem rput_self {h : jH} {r a : Nat} : rput h r a (h r 1) (h a) = h := by
  funext p q
  simp only [rput, hw, hs]
  by_cases hp2 : p = a
  · subst hp2; simp
  · by_cases hp : p = r
    · subst hp
      by_cases hq : q = 1 <;> simp [hp2, hq, hs, hw]
    · simp [hp, hp2, hs, hw]
theorem rput_rput {h : jH} {r a : Nat} {n n' : Int} {f f' : Nat → Int} : rput (rput h r a n f) r a n' f' = rput h r a n' f' := by
  funext p q
  simp only [rput, hw, hs]
  by_cases hp2 : p = a
  · subst hp2; simp
  · by_cases hp : p = r
    · subst hp
      by_cases hq : q = 1 <;> simp [hp2, hq, hs, hw]
    · simp [hp, hp2, hs, hw]
/-- add, with room, over a row that is put -/
theorem c_Row_add' (l : Launch) {r a n : Nat} (hS : RowS r a n) (h : jH) (x : Int) (c : Nat) (f : Nat → Int) (hc : c < n) : cV l 100 [.ref r, .int (jI x)] (rput h r a (c : Int) f) (fun h' => h' = rput h r a ((c : Int) + 1) (fun i => if i = c then x else f i)) := by
  have e := rput_n (h := h) (n := (c : Int)) (f := f) hS.ne
  refine (c_Row_add l hS (rput h r a (c : Int) f) x (by rw [e]; omega) (by rw [e]; omega)).mono (fun h' q => ?_)
  rw [q, e, if_pos (by omega), Int.toNat_natCast, rput_add hS.ne]
set_option maxRecDepth 20000 in
set_option maxHeartbeats 1000000 in
theorem c_Row_addMany_lp (l : Launch) {r a n : Nat} (hS : RowS r a n) (h : jH) (x many : Int) (c : Nat) (f : Nat → Int) (hm : jr many) (hcm : c + many.toNat ≤ n) (P : Option Value → jH → Prop) (hP : P none (rput h r a ((c + many.toNat : Nat) : Int) (fun i => if c ≤ i ∧ i < c + many.toNat then x else f i))) : ∀ (m k : Nat), many.toNat - k < m → k ≤ many.toNat → jT l 101 2 [some (.ref r), some (.int (jI x)), some (.int (jI many)), some (.int (jI (k : Int)))] [] (rput h r a ((c + k : Nat) : Int) (fun i => if c ≤ i ∧ i < c + k then x else f i)) P := by
  intro m
  induction m with
  | zero => intro k hk; omega
  | succ m ih =>
    intro k hk hkK
    have hn := hS.le
    have hm1 := hm.1
    have hm2 := hm.2
    refine tl_iload_n rfl rfl ?_
    refine tl_iload_n rfl rfl ?_
    refine tl_icmp_ge (tgt := 18) rfl rfl ⟨by omega, by omega⟩ ⟨by omega, by omega⟩ (fun c1 => ?_) (fun c1 => ?_)
    · skip
      refine tl_ret rfl ?_
      -- leaf 0 at 18
      have e : k = many.toNat := by omega
      subst e
      exact hP
    · show jT _ _ 7 _ _ _ _
      refine tl_aload_n rfl rfl ?_
      refine tl_iload_n rfl rfl ?_
      show jT _ _ 9 _ _ _ _
      refine tl_v1v (c9 := 8) (c_Row_add' l hS h x (c + k) _ (by omega)) rfl rfl rfl hS.1 rfl (Nat.le_of_ble_eq_true rfl) (fun h2 hq => ?_)
      subst hq
      refine tl_iinc rfl rfl rfl ?_
      refine tl_goto (tgt := 2) rfl rfl ?_
      show jT _ _ 2 _ _ _ _
      -- leaf 1 at 2
      have e : rput h r a (((c + k : Nat) : Int) + 1) (fun i => if i = c + k then x else if c ≤ i ∧ i < c + k then x else f i) = rput h r a ((c + (k + 1) : Nat) : Int) (fun i => if c ≤ i ∧ i < c + (k + 1) then x else f i) := by
        refine rput_ext (by omega) (fun i => ?_)
        by_cases q1 : i = c + k
        · rw [if_pos q1, if_pos (by omega)]
        · rw [if_neg q1]
          by_cases q2 : c ≤ i ∧ i < c + k
          · rw [if_pos q2, if_pos (by omega)]
          · rw [if_neg q2, if_neg (by omega)]
      rw [e]
      exact ih (k + 1) (by omega) (by omega)
set_option maxRecDepth 20000 in
set_option maxHeartbeats 1000000 in
/-- addMany(x, many): many times x comes behind the last, with room -/
theorem c_Row_addMany (l : Launch) {r a n : Nat} (hS : RowS r a n) (h : jH) (x many : Int) (c : Nat) (f : Nat → Int) (hm : jr many) (hcm : c + many.toNat ≤ n) : cV l 101 [.ref r, .int (jI x), .int (jI many)] (rput h r a (c : Int) f) (fun h' => h' = rput h r a ((c + many.toNat : Nat) : Int) (fun i => if c ≤ i ∧ i < c + many.toNat then x else f i)) := by
  refine cV.of rfl rfl ?_
  have e : rput h r a (c : Int) f = rput h r a ((c + 0 : Nat) : Int) (fun i => if c ≤ i ∧ i < c + 0 then x else f i) := rput_ext (by omega) (fun i => by rw [if_neg (by omega)])
  rw [e]
  refine tl_iconst rfl ?_
  refine tl_istore_n rfl (Nat.le_of_ble_eq_true rfl) rfl ?_
  show jT _ _ 2 _ _ _ _
  -- leaf 0 at 2
  exact c_Row_addMany_lp l hS h x many c f hm hcm _ ⟨rfl, rfl⟩ _ 0 (Nat.lt_succ_self _) (Nat.zero_le _)
