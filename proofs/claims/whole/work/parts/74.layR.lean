/-! a patch read: origins laid out by the reference -/
theorem rg_0 {S : jH} {D X D2 X2 : List Int} : ∀ i j, rg S D X i 0 j = rg S D2 X2 i 0 j := by
  intro i
  induction i with
  | zero => intro j; rfl
  | succ i ih => intro j; rw [rg_s, rg_s, ih]; rfl
def plk (S : jH) (k j : Nat) : Int := if (j : Int) < bq S k then rg S [] [] k 0 j else -1
theorem plk_0 {S : jH} {j : Nat} : plk S 0 j = -1 := by
  rw [plk, if_neg]
  show ¬ (j : Int) < 0
  omega
theorem plk_s {S : jH} {k j : Nat} (h2 : 0 ≤ S 2 k) (h3 : 0 ≤ S 3 k) : plk S (k + 1) j = if bq S k ≤ (j : Int) ∧ (j : Int) < bq S k + S 2 k then S 1 k + ((j : Int) - bq S k) else plk S k j := by
  have e := bq_s (S := S) (i := k)
  by_cases a : bq S k ≤ (j : Int) ∧ (j : Int) < bq S k + S 2 k
  · rw [plk, if_pos (by omega), rg_s, if_pos a, if_pos a]; rfl
  · rw [if_neg a]
    by_cases b : (j : Int) < bq S (k + 1)
    · rw [plk, if_pos b, rg_s, if_neg a]
      by_cases c : bq S k + S 2 k ≤ (j : Int) ∧ (j : Int) < bq S (k + 1)
      · rw [if_pos c, if_pos rfl, plk, if_neg (by omega)]
      · rw [if_neg c, plk, if_pos (by omega)]
    · rw [plk, if_neg b, plk, if_neg (by omega)]
/-- of the first spots, how many are extra (e) or copied -/
def cnt (g : Nat → Int) (e : Bool) : Nat → Nat
  | 0 => 0
  | i + 1 => if decide (g i = -1) = e then cnt g e i + 1 else cnt g e i
theorem cnt_le {g : Nat → Int} {e : Bool} : ∀ i, cnt g e i ≤ i := by
  intro i
  induction i with
  | zero => exact Nat.le_refl _
  | succ i ih => rw [cnt]; split <;> omega
theorem cnt_add {g : Nat → Int} : ∀ i, cnt g false i + cnt g true i = i := by
  intro i
  induction i with
  | zero => rfl
  | succ i ih =>
    rw [cnt, cnt]
    by_cases c : g i = -1
    · rw [decide_eq_true c, if_neg (by decide), if_pos rfl]; omega
    · rw [decide_eq_false c, if_pos rfl, if_neg (by decide)]; omega
theorem cnt_congr {g g' : Nat → Int} {e : Bool} : ∀ i, (∀ j, j < i → g j = g' j) → cnt g e i = cnt g' e i := by
  intro i
  induction i with
  | zero => intro _; rfl
  | succ i ih => intro h; rw [cnt, cnt, h i (by omega), ih (fun j hj => h j (by omega))]
theorem cnt_c {g : Nat → Int} {a : Nat} : ∀ d, (∀ j, a ≤ j → j < a + d → g j ≠ -1) → cnt g false (a + d) = cnt g false a + d := by
  intro d
  induction d with
  | zero => intro _; rfl
  | succ d ih => intro h; rw [← Nat.add_assoc, cnt, decide_eq_false (h (a + d) (by omega) (by omega)), if_pos rfl, ih (fun j h1 h2 => h j h1 (by omega))]; omega
theorem cnt_x {g : Nat → Int} {a : Nat} : ∀ d, (∀ j, a ≤ j → j < a + d → g j = -1) → cnt g false (a + d) = cnt g false a := by
  intro d
  induction d with
  | zero => intro _; rfl
  | succ d ih => intro h; rw [← Nat.add_assoc, cnt, decide_eq_true (h (a + d) (by omega) (by omega)), if_neg (by decide), ih (fun j h1 h2 => h j h1 (by omega))]
theorem rg_st {S : jH} {D X : List Int} {q r j : Nat} : ∀ d, (∀ i, q ≤ i → i < q + d → bq S q ≤ bq S i ∧ 0 ≤ S 2 i) → (j : Int) < bq S q → rg S D X (q + d) r j = rg S D X q r j := by
  intro d
  induction d with
  | zero => intro _ _; rfl
  | succ d ih =>
    intro h hj
    have a := h (q + d) (by omega) (by omega)
    rw [← Nat.add_assoc, rg_s, if_neg (by omega), if_neg (by omega)]
    exact ih (fun i h1 h2 => h i h1 (by omega)) hj
theorem PTI.pos {N p0 np : Nat} {os ns : Int} {S : jH} (I : PTI N os ns p0 np S) {q : Nat} (hq : q < np) : 0 ≤ S 1 q ∧ 0 ≤ S 2 q ∧ 0 ≤ S 3 q := by
  have := I.2.2.2.2.2.2 q hq
  exact ⟨this.1.1, this.1.2.1, this.1.2.2.1⟩
theorem PTI.mono {N p0 np : Nat} {os ns : Int} {S : jH} (I : PTI N os ns p0 np S) {q : Nat} : ∀ d, q + d ≤ np → bq S q ≤ bq S (q + d) ∧ tq S q ≤ tq S (q + d) ∧ bq S q - tq S q ≤ bq S (q + d) - tq S (q + d) := by
  intro d
  induction d with
  | zero => intro _; exact ⟨Int.le_refl _, Int.le_refl _, Int.le_refl _⟩
  | succ d ih =>
    intro h
    have a := ih (by omega)
    have b := I.pos (q := q + d) (by omega)
    rw [← Nat.add_assoc, bq_s, tq_s]
    omega
theorem PTI.rgn {N p0 np : Nat} {os ns : Int} {S : jH} (I : PTI N os ns p0 np S) {D X : List Int} {q r j : Nat} (hq : q < np) (hj : (j : Int) < bq S (q + 1)) : rg S D X np r j = rg S D X (q + 1) r j := by
  have := rg_st (S := S) (D := D) (X := X) (q := q + 1) (r := r) (j := j) (np - (q + 1)) (fun i h1 h2 => ⟨by have := (I.mono (q := q + 1) (i - (q + 1)) (by omega)).1; rwa [show q + 1 + (i - (q + 1)) = i by omega] at this, (I.pos (q := i) (by omega)).2.1⟩) hj
  rwa [show q + 1 + (np - (q + 1)) = np by omega] at this
theorem PTI.arC {N p0 np : Nat} {os ns : Int} {S : jH} (I : PTI N os ns p0 np S) {D X : List Int} {q j : Nat} (hq : q < np) (h1 : bq S q ≤ (j : Int)) (h2 : (j : Int) < bq S q + S 2 q) : rg S D X np 0 j = S 1 q + ((j : Int) - bq S q) ∧ rg S D X np 1 j = D.getD (tq S q + ((j : Int) - bq S q)).toNat 0 := by
  have b := I.pos hq
  have e := bq_s (S := S) (i := q)
  refine ⟨?_, ?_⟩
  · rw [I.rgn hq (by omega), rg_s, if_pos ⟨h1, h2⟩, if_pos rfl]
  · rw [I.rgn hq (by omega), rg_s, if_pos ⟨h1, h2⟩, if_neg (by decide)]
theorem PTI.arX {N p0 np : Nat} {os ns : Int} {S : jH} (I : PTI N os ns p0 np S) {D X : List Int} {q j : Nat} (hq : q < np) (h1 : bq S q + S 2 q ≤ (j : Int)) (h2 : (j : Int) < bq S (q + 1)) : rg S D X np 0 j = -1 ∧ rg S D X np 1 j = X.getD ((j : Int) - tq S (q + 1)).toNat 0 := by
  refine ⟨?_, ?_⟩
  · rw [I.rgn hq h2, rg_s, if_neg (by omega), if_pos ⟨h1, h2⟩, if_pos rfl]
  · rw [I.rgn hq h2, rg_s, if_neg (by omega), if_pos ⟨h1, h2⟩, if_neg (by decide)]
theorem PTI.area {N p0 np : Nat} {os ns : Int} {S : jH} (I : PTI N os ns p0 np S) : ∀ n, n ≤ np → ∀ j : Nat, (j : Int) < bq S n → ∃ q, q < n ∧ bq S q ≤ (j : Int) ∧ (j : Int) < bq S (q + 1) := by
  intro n
  induction n with
  | zero => intro _ j hj; exact absurd hj (by show ¬ (j : Int) < 0; omega)
  | succ n ih =>
    intro hn j hj
    by_cases c : (j : Int) < bq S n
    · obtain ⟨q, q1, q2, q3⟩ := ih (by omega) j c
      exact ⟨q, by omega, q2, q3⟩
    · exact ⟨n, by omega, by omega, hj⟩
theorem PTI.cnt {N p0 np : Nat} {os ns : Int} {S : jH} (I : PTI N os ns p0 np S) : ∀ q, q ≤ np → ((Jvm.Pilot.CTailPatchesLaw_law_r1987_3e6ff7.cnt (fun j => rg S [] [] np 0 j) false (bq S q).toNat : Nat) : Int) = tq S q := by
  intro q
  induction q with
  | zero => intro _; rfl
  | succ q ih =>
    intro hq
    have a := ih (by omega)
    have b := I.pos (q := q) (by omega)
    have e := bq_s (S := S) (i := q)
    have t := tq_s (S := S) (i := q)
    have z := (I.bq'.2.2.2 q (by omega)).1
    have z2 := (I.bq'.2.2.2 q (by omega)).2.1
    have e1 : (bq S (q + 1)).toNat = (bq S q).toNat + (S 2 q).toNat + (S 3 q).toNat := by omega
    rw [e1, cnt_x, cnt_c]
    · omega
    · intro j h1 h2
      show rg S [] [] np 0 j ≠ -1
      rw [(I.arC (q := q) (by omega) (by omega) (by omega)).1]; omega
    · intro j h1 h2
      exact (I.arX (q := q) (by omega) (by omega) (by omega)).1
/-- what the rows tell, counted spot by spot -/
theorem PTI.rgc {N p0 np : Nat} {os ns : Int} {S : jH} (I : PTI N os ns p0 np S) {D X : List Int} (lD : (D.length : Int) = tq S np) (lX : (X.length : Int) = bq S np - tq S np) (j : Nat) (hj : (j : Int) < bq S np) : (rg S [] [] np 0 j = -1 → Jvm.Pilot.CTailPatchesLaw_law_r1987_3e6ff7.cnt (fun j => rg S [] [] np 0 j) true j < X.length ∧ rg S D X np 1 j = X.getD (Jvm.Pilot.CTailPatchesLaw_law_r1987_3e6ff7.cnt (fun j => rg S [] [] np 0 j) true j) 0) ∧ (rg S [] [] np 0 j ≠ -1 → Jvm.Pilot.CTailPatchesLaw_law_r1987_3e6ff7.cnt (fun j => rg S [] [] np 0 j) false j < D.length ∧ rg S D X np 1 j = D.getD (Jvm.Pilot.CTailPatchesLaw_law_r1987_3e6ff7.cnt (fun j => rg S [] [] np 0 j) false j) 0) := by
  obtain ⟨q, q1, q2, q3⟩ := I.area np (Nat.le_refl _) j hj
  have a := I.cnt q (by omega)
  have b := I.pos (q := q) (by omega)
  have e := bq_s (S := S) (i := q)
  have t := tq_s (S := S) (i := q)
  have z := I.bq'.2.2.2 q (by omega)
  have z2 := I.mono (q := q + 1) (np - (q + 1)) (by omega)
  rw [show q + 1 + (np - (q + 1)) = np by omega] at z2
  have ad := cnt_add (g := fun j => rg S [] [] np 0 j) j
  by_cases c : (j : Int) < bq S q + S 2 q
  · have w := (I.arC (D := []) (X := []) q1 q2 c).1
    have w2 := (I.arC (D := D) (X := X) q1 q2 c).2
    have cc := cnt_c (g := fun j => rg S [] [] np 0 j) (a := (bq S q).toNat) (j - (bq S q).toNat) (fun i h1 h2 => by show rg S [] [] np 0 i ≠ -1; rw [(I.arC q1 (by omega) (by omega)).1]; omega)
    rw [show (bq S q).toNat + (j - (bq S q).toNat) = j by omega] at cc
    refine ⟨fun h => by rw [w] at h; omega, fun _ => ⟨by omega, ?_⟩⟩
    rw [w2]
    exact congrArg (fun i => D.getD i 0) (by omega)
  · have w := (I.arX (D := []) (X := []) q1 (by omega) q3).1
    have w2 := (I.arX (D := D) (X := X) q1 (by omega) q3).2
    have cc := cnt_c (g := fun j => rg S [] [] np 0 j) (a := (bq S q).toNat) (S 2 q).toNat (fun i h1 h2 => by show rg S [] [] np 0 i ≠ -1; rw [(I.arC q1 (by omega) (by omega)).1]; omega)
    have cx := cnt_x (g := fun j => rg S [] [] np 0 j) (a := (bq S q).toNat + (S 2 q).toNat) (j - ((bq S q).toNat + (S 2 q).toNat)) (fun i h1 h2 => (I.arX q1 (by omega) (by omega)).1)
    rw [show (bq S q).toNat + (S 2 q).toNat + (j - ((bq S q).toNat + (S 2 q).toNat)) = j by omega] at cx
    refine ⟨fun _ => ⟨by omega, ?_⟩, fun h => absurd w h⟩
    rw [w2]
    exact congrArg (fun i => X.getD i 0) (by omega)
theorem plk_e {N p0 np : Nat} {os ns : Int} {S : jH} (I : PTI N os ns p0 np S) {j : Nat} (hj : (j : Int) < bq S np) : plk S np j = rg S [] [] np 0 j := by rw [plk, if_pos hj]
set_option maxRecDepth 20000 in
set_option maxHeartbeats 1000000 in
theorem r_lp2_lp (l : Launch) (h : jH) (S : jH) (np N p0 : Nat) (os ns : Int) (I : PTI N os ns p0 np S) (ns64 : ns ≤ 64) (os64 : os ≤ 64) (n100 : np ≤ 99) (e3 : S 0 3 = ns) (hp : h 388 38 = (np : Int)) (hn : h 388 25 = ns) (kp : PTR h S np) (k : Nat) (hk9 : k < np) (P : Option Value → jH → Prop) (hx : ∀ mem, ((∀ q : Nat, (q : Int) < ns → mem 403 q = plk S (k + 1) q) ∧ (∀ x, x ≠ 403 → mem x = h x)) → jT l 284 33 [some (.ref 388), some (.int (jI (((k + 1 : Nat) : Int)))), some (.int (jI (S 2 k)))] [] mem P) : ∀ (m : Nat) (i : Nat) (mem : jH), (S 2 k).toNat - i < m → ((i : Int) ≤ S 2 k ∧ (∀ q : Nat, (q : Int) < ns → mem 403 q = if bq S k ≤ (q : Int) ∧ (q : Int) < bq S k + i then S 1 k + ((q : Int) - bq S k) else plk S k q) ∧ (∀ x, x ≠ 403 → mem x = h x)) → jT l 284 43 [some (.ref 388), some (.int (jI ((k : Int)))), some (.int (jI ((i : Int))))] [] mem P := by
  have bq9 := I.bq'
  have kb := I.pos hk9
  have b9 := bq9.2.2.2 k (by omega)
  have b8 := bq9.2.2.2 (k + 1) (by omega)
  have e9 := bq_s (S := S) (i := k)
  have s4 := bq9.1 k hk9
  have kk := kp k hk9
  have s1 := (I.2.2.2.2.2.2 k hk9).1.2.2.2.2
  intro m
  induction m with
  | zero => intro i mem hk; omega
  | succ m ih =>
    intro i mem hk hi
    obtain ⟨i0, i1, fr⟩ := hi
    refine tl_iload_n rfl rfl ?_
    refine tl_aload_n rfl rfl ?_
    refine tl_getr (c := 12) (k9 := 40) (b := 409) rfl rfl rfl rfl ?_
    refine tl_iload_n rfl rfl ?_
    refine tl_iald (n := 100) rfl rfl rfl (by omega) (by omega) ?_
    rw [Int.toNat_natCast, fr 409 (by decide), kk.2.1]
    refine tl_icmp_ge (tgt := 80) rfl rfl ⟨by omega, by omega⟩ ⟨by omega, by omega⟩ (fun c1 => ?_) (fun c1 => ?_)
    · skip
      show jT _ _ 80 _ _ _ _
      refine tl_iinc rfl rfl rfl ?_
      refine tl_goto (tgt := 33) rfl rfl ?_
      show jT _ _ 33 _ _ _ _
      -- leaf 0 at 33
      have ei : (i : Int) = S 2 k := by omega
      refine jT.loc ?_ (hx _ ⟨fun q hq => ?_, fr⟩)
      · rw [show ((k + 1 : Nat) : Int) = (k : Int) + 1 by omega, ei]
        rfl
      · rw [i1 q hq, plk_s kb.2.1 kb.2.2, ei]
    · show jT _ _ 53 _ _ _ _
      refine tl_aload_n rfl rfl ?_
      refine tl_getr (c := 12) (k9 := 23) (b := 403) rfl rfl rfl rfl ?_
      refine tl_aload_n rfl rfl ?_
      refine tl_getr (c := 12) (k9 := 42) (b := 411) rfl rfl rfl rfl ?_
      refine tl_iload_n rfl rfl ?_
      show jT _ _ 62 _ _ _ _
      refine tl_iald (n := 100) rfl rfl rfl (by omega) (by omega) ?_
      rw [Int.toNat_natCast, fr 411 (by decide), kk.2.2.2, s4]
      refine tl_iload_n rfl rfl ?_
      refine tl_iadd rfl ?_
      refine tl_aload_n rfl rfl ?_
      refine tl_getr (c := 12) (k9 := 39) (b := 408) rfl rfl rfl rfl ?_
      refine tl_iload_n rfl rfl ?_
      refine tl_iald (n := 100) rfl rfl rfl (by omega) (by omega) ?_
      rw [Int.toNat_natCast, fr 408 (by decide), kk.1]
      show jT _ _ 71 _ _ _ _
      refine tl_iload_n rfl rfl ?_
      refine tl_iadd rfl ?_
      refine tl_iast (n := 64) rfl rfl rfl (by omega) (by omega) ?_
      refine tl_iinc rfl rfl rfl ?_
      refine tl_goto (tgt := 43) rfl rfl ?_
      show jT _ _ 43 _ _ _ _
      -- leaf 1 at 43
      refine jT.loc ?_ (ih (i + 1) _ (by omega) ⟨by omega, fun q hq => ?_, fun x hx9 => by rw [hs_O hx9]; exact fr x hx9⟩)
      · rw [show ((i + 1 : Nat) : Int) = (i : Int) + 1 by omega]
        rfl
      · by_cases c : q = (bq S k + (i : Int)).toNat
        · subst c
          rw [hs_s, if_pos (by omega)]; omega
        · rw [hs_k c, i1 q hq]
          by_cases d : bq S k ≤ (q : Int) ∧ (q : Int) < bq S k + i
          · rw [if_pos d, if_pos (by omega)]
          · rw [if_neg d, if_neg (by omega)]
set_option maxRecDepth 20000 in
set_option maxHeartbeats 1000000 in
theorem r_lp1_lp (l : Launch) (h : jH) (S : jH) (np N p0 : Nat) (os ns : Int) (I : PTI N os ns p0 np S) (ns64 : ns ≤ 64) (os64 : os ≤ 64) (n100 : np ≤ 99) (e3 : S 0 3 = ns) (hp : h 388 38 = (np : Int)) (hn : h 388 25 = ns) (kp : PTR h S np) (P : Option Value → jH → Prop) (hP : ∀ mem, ((∀ q : Nat, (q : Int) < ns → mem 403 q = rg S [] [] np 0 q) ∧ (∀ x, x ≠ 403 → mem x = h x)) → P none mem) : ∀ (m : Nat) (k : Nat) (mem : jH) (y2 : Option Value), np - k < m → (k ≤ np ∧ (∀ q : Nat, (q : Int) < ns → mem 403 q = plk S k q) ∧ (∀ x, x ≠ 403 → mem x = h x)) → jT l 284 33 [some (.ref 388), some (.int (jI ((k : Int)))), y2] [] mem P := by
  intro m
  induction m with
  | zero => intro k mem y2 hk; omega
  | succ m ih =>
    intro k mem y2 hk hi
    obtain ⟨i0, i1, fr⟩ := hi
    refine tl_iload_n rfl rfl ?_
    refine tl_aload_n rfl rfl ?_
    refine tl_geti (c := 12) (k9 := 38) rfl rfl rfl ?_
    rw [fr 388 (by decide), hp]
    refine tl_icmp_ge (tgt := 86) rfl rfl ⟨by omega, by omega⟩ ⟨by omega, by omega⟩ (fun c1 => ?_) (fun c1 => ?_)
    · skip
      refine tl_ret rfl ?_
      -- leaf 0 at 86
      have e : k = np := by omega
      subst e
      refine hP _ ⟨fun q hq => ?_, fr⟩
      rw [i1 q hq]
      exact plk_e I (by have := I.bq'.2.1; omega)
    · show jT _ _ 41 _ _ _ _
      refine tl_iconst rfl ?_
      show jT _ _ 42 _ _ _ _
      refine tl_istore_n rfl (Nat.le_of_ble_eq_true rfl) rfl ?_
      show jT _ _ 43 _ _ _ _
      -- leaf 1 at 43
      exact r_lp2_lp l h S np N p0 os ns I ns64 os64 n100 e3 hp hn kp k (by omega) P (fun m2 p2 => ih (k + 1) m2 _ (by omega) ⟨by omega, p2⟩) _ 0 mem (Nat.lt_succ_self _) ⟨(I.pos (by omega)).2.1, fun q hq => by rw [i1 q hq, if_neg (by omega)], fr⟩
set_option maxRecDepth 20000 in
set_option maxHeartbeats 1000000 in
theorem r_lp0_lp (l : Launch) (h : jH) (n : Nat) (n64 : n ≤ 64) (hn : h 388 25 = (n : Int)) (P : Option Value → jH → Prop) (hx : ∀ mem, ((∀ q : Nat, q < n → mem 403 q = -1) ∧ (∀ x, x ≠ 403 → mem x = h x)) → jT l 284 31 [some (.ref 388), some (.int (jI ((n : Int)))), none] [] mem P) : ∀ (m : Nat) (k : Nat) (mem : jH), n - k < m → (k ≤ n ∧ (∀ q : Nat, q < k → mem 403 q = -1) ∧ (∀ x, x ≠ 403 → mem x = h x)) → jT l 284 10 [some (.ref 388), some (.int (jI ((k : Int)))), none] [] mem P := by
  intro m
  induction m with
  | zero => intro k mem hk; omega
  | succ m ih =>
    intro k mem hk hi
    obtain ⟨i0, i1, fr⟩ := hi
    refine tl_iload_n rfl rfl ?_
    refine tl_aload_n rfl rfl ?_
    refine tl_geti (c := 12) (k9 := 25) rfl rfl rfl ?_
    rw [fr 388 (by decide), hn]
    refine tl_icmp_ge (tgt := 31) rfl rfl ⟨by omega, by omega⟩ ⟨by omega, by omega⟩ (fun c1 => ?_) (fun c1 => ?_)
    · skip
      show jT _ _ 31 _ _ _ _
      -- leaf 0 at 31
      have e : k = n := by omega
      subst e
      exact hx _ ⟨i1, fr⟩
    · show jT _ _ 18 _ _ _ _
      refine tl_aload_n rfl rfl ?_
      refine tl_getr (c := 12) (k9 := 23) (b := 403) rfl rfl rfl rfl ?_
      show jT _ _ 22 _ _ _ _
      refine tl_iload_n rfl rfl ?_
      refine tl_iconst rfl ?_
      refine tl_iast (n := 64) rfl rfl rfl (by omega) (by omega) ?_
      rw [Int.toNat_natCast]
      refine tl_iinc rfl rfl rfl ?_
      refine tl_goto (tgt := 10) rfl rfl ?_
      show jT _ _ 10 _ _ _ _
      -- leaf 1 at 10
      refine jT.loc ?_ (ih (k + 1) _ (by omega) ⟨by omega, fun q hq => ?_, fun x hx9 => by rw [hs_O hx9]; exact fr x hx9⟩)
      · rw [show ((k + 1 : Nat) : Int) = (k : Int) + 1 by omega]
        rfl
      · by_cases c : q = k
        · subst c; rw [hs_s]
        · rw [hs_k c]; exact i1 q (by omega)
set_option maxRecDepth 20000 in
set_option maxHeartbeats 1000000 in
theorem r_layPlaces (l : Launch) (h : jH) (S : jH) (np N p0 : Nat) (os ns : Int) (I : PTI N os ns p0 np S) (ns64 : ns ≤ 64) (os64 : os ≤ 64) (n100 : np ≤ 99) (e3 : S 0 3 = ns) (hp : h 388 38 = (np : Int)) (hn : h 388 36 = ns) (kp : PTR h S np) : cV l 284 [.ref 388] h (fun h' => h' 388 25 = ns ∧ (∀ q : Nat, (q : Int) < ns → h' 403 q = rg S [] [] np 0 q) ∧ (∀ x, x ≠ 388 → x ≠ 403 → h' x = h x) ∧ ∀ q, q ≠ 25 → h' 388 q = h 388 q) := by
  have n0 := I.2.2.1
  refine cV.of rfl rfl ?_
  refine tl_aload_n rfl rfl ?_
  refine tl_aload_n rfl rfl ?_
  refine tl_geti (c := 12) (k9 := 36) rfl rfl rfl ?_
  rw [hn]
  refine tl_puti (c := 12) (k9 := 25) rfl rfl rfl rfl ?_
  refine tl_iconst rfl ?_
  refine tl_istore_n rfl (Nat.le_of_ble_eq_true rfl) rfl ?_
  show jT _ _ 10 _ _ _ _
  -- leaf 0 at 10
  refine r_lp0_lp l (hs h 388 25 ns) ns.toNat (by omega) (by rw [hs_s]; omega) _ (fun m1 p1 => ?_) _ 0 _ (Nat.lt_succ_self _) ⟨Nat.zero_le _, fun q hq => absurd hq (by omega), fun x _ => rfl⟩
  obtain ⟨p1, f1⟩ := p1
  refine tl_iconst rfl ?_
  refine tl_istore_n rfl (Nat.le_of_ble_eq_true rfl) rfl ?_
  show jT _ _ 33 _ _ _ _
  -- leaf 0 at 33
  refine jT.loc (L' := [some (.ref 388), some (.int (jI (((0 : Nat) : Int)))), none]) rfl (r_lp1_lp l m1 S np N p0 os ns I ns64 os64 n100 e3 (by rw [f1 388 (by decide), hs_k (by decide)]; exact hp) (by rw [f1 388 (by decide), hs_s]) (kp.of (fun x x1 x2 => by rw [f1 x (by omega), hs_O (by omega)])) _ (fun m2 p2 => ?_) _ 0 m1 none (Nat.lt_succ_self _) ⟨Nat.zero_le _, fun q hq => by rw [plk_0]; exact p1 q (by omega), fun _ _ => rfl⟩)
  exact ⟨rfl, by rw [p2.2 388 (by decide), f1 388 (by decide), hs_s], p2.1, fun x x1 x2 => by rw [p2.2 x x2, f1 x x2, hs_O x1], fun q hq => by rw [p2.2 388 (by decide), f1 388 (by decide), hs_k hq]⟩
set_option maxRecDepth 20000 in
set_option maxHeartbeats 1000000 in
theorem r_cs_lp (l : Launch) (h : jH) (S : jH) (np N p0 : Nat) (os ns : Int) (I : PTI N os ns p0 np S) (ns64 : ns ≤ 64) (n100 : np ≤ 99) (hp : h 388 38 = (np : Int)) (kp : PTR h S np) (P : Option Value → jH → Prop) (hP : P (some (.int (jI (tq S np)))) h) : ∀ (m : Nat) (k : Nat), np - k < m → (k ≤ np) → jT l 285 4 [some (.ref 388), some (.int (jI (tq S k))), some (.int (jI ((k : Int))))] [] h P := by
  intro m
  induction m with
  | zero => intro k hk; omega
  | succ m ih =>
    intro k hk hi
    refine tl_iload_n rfl rfl ?_
    refine tl_aload_n rfl rfl ?_
    refine tl_geti (c := 12) (k9 := 38) rfl rfl rfl ?_
    rw [hp]
    refine tl_icmp_ge (tgt := 27) rfl rfl ⟨by omega, by omega⟩ ⟨by omega, by omega⟩ (fun c1 => ?_) (fun c1 => ?_)
    · skip
      refine tl_iload_n rfl rfl ?_
      refine tl_iret rfl ?_
      -- leaf 0 at 28
      have e : k = np := by omega
      subst e
      exact hP
    · show jT _ _ 12 _ _ _ _
      show jT _ _ 12 _ _ _ _
      refine tl_iload_n rfl rfl ?_
      refine tl_aload_n rfl rfl ?_
      refine tl_getr (c := 12) (k9 := 40) (b := 409) rfl rfl rfl rfl ?_
      refine tl_iload_n rfl rfl ?_
      refine tl_iald (n := 100) rfl rfl rfl (by omega) (by omega) ?_
      rw [Int.toNat_natCast, (kp k (by omega)).2.1]
      refine tl_iadd rfl ?_
      refine tl_istore_n rfl (Nat.le_of_ble_eq_true rfl) rfl ?_
      show jT _ _ 21 _ _ _ _
      refine tl_iinc rfl rfl rfl ?_
      refine tl_goto (tgt := 4) rfl rfl ?_
      show jT _ _ 4 _ _ _ _
      -- leaf 1 at 4
      refine jT.loc ?_ (ih (k + 1) (by omega) (by omega))
      rw [tq_s, show ((k + 1 : Nat) : Int) = (k : Int) + 1 by omega]
      rfl
set_option maxRecDepth 20000 in
set_option maxHeartbeats 1000000 in
theorem r_copiedSpots (l : Launch) (h : jH) (S : jH) (np N p0 : Nat) (os ns : Int) (I : PTI N os ns p0 np S) (ns64 : ns ≤ 64) (n100 : np ≤ 99) (hp : h 388 38 = (np : Int)) (kp : PTR h S np) : cI l 285 [.ref 388] h (fun z h' => h' = h ∧ z = tq S np) := by
  refine cI.of rfl rfl ?_
  refine tl_iconst rfl ?_
  refine tl_istore_n rfl (Nat.le_of_ble_eq_true rfl) rfl ?_
  refine tl_iconst rfl ?_
  refine tl_istore_n rfl (Nat.le_of_ble_eq_true rfl) rfl ?_
  show jT _ _ 4 _ _ _ _
  -- leaf 0 at 4
  exact r_cs_lp l h S np N p0 os ns I ns64 n100 hp kp _ ⟨_, rfl, rfl, rfl⟩ _ 0 (Nat.lt_succ_self _) (Nat.zero_le _)
