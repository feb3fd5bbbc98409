/-! save: which other byte, numbers -/
theorem tmod257 (v : Int) : (v.tmod 257 + 257) % 257 = v % 257 ∧ -257 < v.tmod 257 ∧ v.tmod 257 < 257 ∧ (0 ≤ v → v.tmod 257 = v % 257) ∧ (v < 0 → v.tmod 257 ≤ 0 ∧ (v.tmod 257 = 0 → v % 257 = 0) ∧ (v.tmod 257 ≠ 0 → v.tmod 257 + 257 = v % 257)) := by
  by_cases c : 0 ≤ v
  · rw [Int.tmod_eq_emod_of_nonneg c]; omega
  · have e : v.tmod 257 = -((-v).tmod 257) := by rw [Int.neg_tmod]; omega
    rw [e, Int.tmod_eq_emod_of_nonneg (show 0 ≤ -v by omega)]; omega
theorem xor_s (x y : Int32) : (x ^^^ y).toInt < 0 ↔ (x.toInt < 0 ∧ ¬ y.toInt < 0 ∨ ¬ x.toInt < 0 ∧ y.toInt < 0) := by
  have a : decide ((x ^^^ y).toInt < 0) = (x ^^^ y).toBitVec.msb := (BitVec.msb_eq_toInt (x := (x ^^^ y).toBitVec)).symm
  have b : decide (x.toInt < 0) = x.toBitVec.msb := (BitVec.msb_eq_toInt (x := x.toBitVec)).symm
  have c : decide (y.toInt < 0) = y.toBitVec.msb := (BitVec.msb_eq_toInt (x := y.toBitVec)).symm
  rw [Int32.toBitVec_xor, BitVec.msb_xor, ← b, ← c] at a
  by_cases p : x.toInt < 0 <;> by_cases q : y.toInt < 0 <;> simp [p, q] at a ⊢ <;> omega
set_option maxRecDepth 20000 in
set_option maxHeartbeats 1000000 in
theorem c_floorMod (l : Launch) (h : jH) (x : Int) (hx : jr x) : cI l 356 [.int (jI x), .int (jI 257)] h (fun z h' => h' = h ∧ z = x % 257) := by
  have x1 := hx.1
  have x2 := hx.2
  have t := tmod257 x
  have s9 := xor_s (jI x) (jI 257)
  rw [jI_toInt hx, jI_toInt (show jr 257 from ⟨by decide, by decide⟩)] at s9
  obtain ⟨w, hw9⟩ : ∃ w, (jI x ^^^ jI 257).toInt = w := ⟨_, rfl⟩
  have e : jI x ^^^ jI 257 = jI w := by rw [← hw9]; exact (Int32.ofInt_toInt _).symm
  have wb1 := Int32.le_toInt (jI x ^^^ jI 257)
  have wb2 := Int32.toInt_lt (jI x ^^^ jI 257)
  rw [hw9] at s9 wb1 wb2
  refine cI.of rfl rfl ?_
  refine tl_iload_n rfl rfl ?_
  refine tl_iload_n rfl rfl ?_
  refine tl_iremT rfl ⟨by omega, by omega⟩ (by omega) (by omega) ?_
  refine tl_istore_n rfl (Nat.le_of_ble_eq_true rfl) rfl ?_
  refine tl_iload_n rfl rfl ?_
  refine tl_iload_n rfl rfl ?_
  show jT _ _ 6 _ _ _ _
  refine tl_ixor rfl (e) ?_
  refine tl_if_ge (tgt := 18) rfl rfl ⟨by omega, by omega⟩ (fun c1 => ?_) (fun c1 => ?_)
  · skip
    refine tl_iload_n rfl rfl ?_
    refine tl_iret rfl ?_
    -- leaf 0 at 19
    refine ⟨_, rfl, rfl, ?_⟩
    omega
  · show jT _ _ 10 _ _ _ _
    refine tl_iload_n rfl rfl ?_
    refine tl_if_eq (tgt := 18) rfl rfl ⟨by omega, by omega⟩ (fun c2 => ?_) (fun c2 => ?_)
    · skip
      refine tl_iload_n rfl rfl ?_
      show jT _ _ 19 _ _ _ _
      refine tl_iret rfl ?_
      -- leaf 1 at 19
      refine ⟨_, rfl, rfl, ?_⟩
      omega
    · show jT _ _ 14 _ _ _ _
      refine tl_iload_n rfl rfl ?_
      refine tl_iload_n rfl rfl ?_
      refine tl_iadd rfl ?_
      refine tl_iret rfl ?_
      -- leaf 2 at 17
      refine ⟨_, rfl, rfl, ?_⟩
      omega
/-- how much must be added: from the last byte ahead of the check backwards -/
def chE (d : Int) : Nat → Int
  | 0 => d % 257
  | e + 1 => chE d e * 86 % 257
theorem chE_b {d : Int} : ∀ e, 0 ≤ chE d e ∧ chE d e < 257 := by
  intro e
  cases e with
  | zero => show 0 ≤ d % 257 ∧ d % 257 < 257; omega
  | succ e => show 0 ≤ chE d e * 86 % 257 ∧ chE d e * 86 % 257 < 257; omega
theorem chE_m {d : Int} : ∀ e, chE d e = chE (d % 257) e := by
  intro e
  induction e with
  | zero => show d % 257 = d % 257 % 257; omega
  | succ e ih => rw [chE, chE, ih]
theorem chE_3 {d : Int} : ∀ e, chE (3 * d) (e + 1) = chE d e := by
  intro e
  induction e with
  | zero => show 3 * d % 257 * 86 % 257 = d % 257; omega
  | succ e ih => rw [chE, ih]; rfl
/-- one byte another: what that does to the check -/
def upF (f : Nat → Int) (i : Nat) (v : Int) : Nat → Int := fun k => if k = i then v else f k
theorem upF_s {f : Nat → Int} {i : Nat} {v : Int} : upF f i v i = v := by unfold upF; rw [if_pos rfl]
theorem upF_o {f : Nat → Int} {i k : Nat} {v : Int} (h : k ≠ i) : upF f i v k = f k := by unfold upF; rw [if_neg h]
theorem ck_low {f : Nat → Int} {i : Nat} {v : Int} : ∀ k, k ≤ i → ckF (upF f i v) k = ckF f k := fun k hk => ckF_congr k (fun q hq => upF_o (by omega))
theorem ck_ch {f : Nat → Int} {i : Nat} {v : Int} : ∀ e, chE (ckF (upF f i v) (i + 1 + e) - ckF f (i + 1 + e)) e = (v - f i) % 257 := by
  intro e
  induction e with
  | zero =>
    show (ckF (upF f i v) (i + 1) - ckF f (i + 1)) % 257 = _
    rw [ckF, ckF, ck_low i (Nat.le_refl _), upF_s]
    omega
  | succ e ih =>
    rw [← ih, ← chE_3 e, ← Nat.add_assoc, ckF, ckF, upF_o (by omega)]
    rw [chE_m, chE_m (d := 3 * _)]
    congr 1
    omega
def wgt : Nat → Int
  | 0 => 1
  | e + 1 => 3 * wgt e % 257
theorem wgt_b : ∀ e, 0 ≤ wgt e ∧ wgt e < 257 := by
  intro e
  cases e with
  | zero => exact ⟨by decide, by decide⟩
  | succ e => show 0 ≤ 3 * wgt e % 257 ∧ 3 * wgt e % 257 < 257; omega
theorem ck_w {f : Nat → Int} {i : Nat} {v : Int} : ∀ e, (ckF f (i + 1 + e) + (v - f i) * wgt e) % 257 = ckF (upF f i v) (i + 1 + e) := by
  intro e
  induction e with
  | zero =>
    show (ckF f (i + 1) + (v - f i) * 1) % 257 = ckF (upF f i v) (i + 1)
    rw [ckF, ckF, ck_low i (Nat.le_refl _), upF_s]
    omega
  | succ e ih =>
    have q : (v - f i) * (3 * wgt e % 257) = 3 * ((v - f i) * wgt e) - 257 * ((v - f i) * (3 * wgt e / 257)) := by
      rw [show 3 * wgt e % 257 = 3 * wgt e - 257 * (3 * wgt e / 257) by omega, Int.mul_sub, Int.mul_left_comm, Int.mul_left_comm (v - f i) 257]
    show (ckF f (i + 1 + e + 1) + (v - f i) * (3 * wgt e % 257)) % 257 = ckF (upF f i v) (i + 1 + e + 1)
    rw [q, ckF, ckF, ← ih, upF_o (by omega)]
    omega
/-- the one byte that could stand there -/
def oth (V : List Int) (i : Nat) : Int := if V.length < 2 then V.getD i 0 else if i < V.length - 2 then (if 256 < V.getD (V.length - 2) 0 * 256 + V.getD (V.length - 1) 0 ∨ 255 < (V.getD i 0 + chE (V.getD (V.length - 2) 0 * 256 + V.getD (V.length - 1) 0 - ckF (TB V) (V.length - 2)) (V.length - 2 - 1 - i)) % 257 then -1 else (V.getD i 0 + chE (V.getD (V.length - 2) 0 * 256 + V.getD (V.length - 1) 0 - ckF (TB V) (V.length - 2)) (V.length - 2 - 1 - i)) % 257) else if i = V.length - 2 then (if V.getD (V.length - 1) 0 = ckF (TB V) (V.length - 2) % 256 then ckF (TB V) (V.length - 2) / 256 else -1) else (if V.getD (V.length - 2) 0 = ckF (TB V) (V.length - 2) / 256 then ckF (TB V) (V.length - 2) % 256 else -1)
theorem gd_set {V : List Int} {i k : Nat} {v : Int} (hi : i < V.length) : (V.set i v).getD k 0 = if k = i then v else V.getD k 0 := by
  rw [List.getD_eq_getElem?_getD, List.getD_eq_getElem?_getD]
  by_cases c : k = i
  · subst c; rw [if_pos rfl, List.getElem?_set_self hi]; rfl
  · rw [if_neg c, List.getElem?_set_ne (Ne.symm c)]
theorem TB_set {V : List Int} {i : Nat} {v : Int} (hi : i < V.length) : TB (V.set i v) = upF (TB V) i v := by
  funext k
  show (V.set i v).getD k 0 = if k = i then v else V.getD k 0
  exact gd_set hi
theorem oth_u {V : List Int} (hV : LB V) (l2 : 2 ≤ V.length) {i : Nat} (hi : i < V.length) {v : Int} (hv : 0 ≤ v ∧ v ≤ 255) (h : ckf (V.set i v) = 0) : oth V i = v := by
  have y1 := hV.gd (i := V.length - 2) (by omega)
  have y2 := hV.gd (i := V.length - 1) (by omega)
  have y3 := hV.gd (i := i) hi
  have y11 := y1.1
  have y12 := y1.2
  have y21 := y2.1
  have y22 := y2.2
  have y31 := y3.1
  have y32 := y3.2
  have cb := ckF_b (TB V) (V.length - 2)
  unfold ckf at h
  rw [List.length_set, if_neg (by omega)] at h
  have k : (V.set i v).getD (V.length - 2) 0 * 256 + (V.set i v).getD (V.length - 1) 0 = ckF (TB (V.set i v)) (V.length - 2) := by
    by_cases c : (V.set i v).getD (V.length - 2) 0 * 256 + (V.set i v).getD (V.length - 1) 0 = ckF (TB (V.set i v)) (V.length - 2)
    · exact c
    · rw [if_neg c] at h; exact absurd h (by decide)
  rw [TB_set hi, gd_set hi, gd_set hi] at k
  unfold oth
  rw [if_neg (by omega)]
  by_cases a : i < V.length - 2
  · rw [if_pos a]
    rw [if_neg (by omega), if_neg (by omega)] at k
    have u := ck_ch (f := TB V) (i := i) (v := v) (V.length - 2 - 1 - i)
    rw [show i + 1 + (V.length - 2 - 1 - i) = V.length - 2 by omega, ← k] at u
    have cb2 := ckF_b (upF (TB V) i v) (V.length - 2)
    have eT : TB V i = V.getD i 0 := rfl
    rw [eT] at u
    rw [u]
    rw [if_neg (by omega)]
    omega
  · rw [if_neg a]
    by_cases b : i = V.length - 2
    · rw [if_pos b]
      rw [if_pos b.symm, if_neg (by omega), ck_low _ (by omega)] at k
      rw [if_pos (by omega)]; omega
    · rw [if_neg b]
      rw [if_neg (by omega), if_pos (by omega), ck_low _ (by omega)] at k
      rw [if_pos (by omega)]; omega
theorem oth_b {V : List Int} (hV : LB V) {i : Nat} (hi : i < V.length) : -1 ≤ oth V i ∧ oth V i ≤ 255 := by
  have y3 := hV.gd (i := i) hi
  have y31 := y3.1
  have y32 := y3.2
  have cb := ckF_b (TB V) (V.length - 2)
  unfold oth
  split
  · omega
  · split
    · split <;> omega
    · split
      · split <;> omega
      · split <;> omega
/-- ways to save, counted -/
def svP (V : List Int) (R : Nat → Int) (i : Nat) (v : Int) : Bool := decide (v ≠ V.getD i 0 ∧ rdF (V.set i v) true R = 0)
theorem svP_t {V : List Int} {R : Nat → Int} {i : Nat} {v : Int} : svP V R i v = true ↔ (v ≠ V.getD i 0 ∧ rdF (V.set i v) true R = 0) := ⟨fun h => of_decide_eq_true h, fun h => decide_eq_true h⟩
def svS (W : Nat → Int) (i v : Int) : Nat → Int := fun q => if q = 0 then W 0 + 1 else if q = 1 then (if W 0 = 0 then i else W 1) else if q = 2 then (if W 0 = 0 then v else W 2) else W q
def svV (V : List Int) (R : Nat → Int) (i : Nat) (W : Nat → Int) : Nat → Nat → Int
  | 0 => W
  | v + 1 => if svP V R i (v : Int) = true then svS (svV V R i W v) (i : Int) (v : Int) else svV V R i W v
theorem svV_0 {V : List Int} {R : Nat → Int} {i : Nat} {W : Nat → Int} : ∀ k, (∀ v : Nat, v < k → svP V R i (v : Int) = false) → svV V R i W k = W := by
  intro k
  induction k with
  | zero => intro _; rfl
  | succ k ih => intro h; rw [svV, if_neg (by rw [h k (by omega)]; decide), ih (fun v hv => h v (by omega))]
theorem svV_1 {V : List Int} {R : Nat → Int} {i : Nat} {W : Nat → Int} {o : Nat} (ho : svP V R i (o : Int) = true) : ∀ k, o < k → (∀ v : Nat, v < k → v ≠ o → svP V R i (v : Int) = false) → svV V R i W k = svS W (i : Int) (o : Int) := by
  intro k
  induction k with
  | zero => intro h; omega
  | succ k ih =>
    intro h hu
    by_cases c : k = o
    · subst c; rw [svV, if_pos ho, svV_0 k (fun v hv => hu v (by omega) (by omega))]
    · rw [svV, if_neg (by rw [hu k (by omega) c]; decide)]; exact ih (by omega) (fun v hv => hu v (by omega))
def svO (V : List Int) (R : Nat → Int) (i : Nat) (W : Nat → Int) : Nat → Int := if oth V i ≠ -1 ∧ svP V R i (oth V i) = true then svS W (i : Int) (oth V i) else W
theorem svV_o {V : List Int} {R : Nat → Int} (hV : LB V) (l2 : 2 ≤ V.length) {i : Nat} (hi : i < V.length) {W : Nat → Int} : svV V R i W 256 = svO V R i W := by
  have ob := oth_b hV hi
  have key : ∀ v : Nat, v < 256 → svP V R i (v : Int) = true → oth V i = (v : Int) := fun v hv h => oth_u hV l2 hi (by omega) (by
    have := (svP_t.mp h).2
    unfold rdF at this
    by_cases c : ckf (V.set i (v : Int)) = 0
    · exact c
    · rw [if_pos c] at this; exact absurd this c)
  unfold svO
  by_cases c : oth V i ≠ -1 ∧ svP V R i (oth V i) = true
  · rw [if_pos c]
    have e : oth V i = ((oth V i).toNat : Int) := by omega
    have p := c.2
    rw [e] at p
    rw [svV_1 p 256 (by omega) (fun v d hv => ?_), ← e]
    cases q : svP V R i (v : Int) with
    | false => rfl
    | true => exact absurd (key v d q) (by omega)
  · rw [if_neg c]
    refine svV_0 256 (fun v hv => ?_)
    cases q : svP V R i (v : Int) with
    | false => rfl
    | true =>
      have e := key v hv q
      rw [← e] at q
      exact absurd ⟨by omega, q⟩ c
