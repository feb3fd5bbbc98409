/-! packing, of the reference: pack, packNow -/
def FA (h h' : jH) : Prop := (∀ y, y ≠ 388 → y ≠ 405 → y ≠ 406 → h' y = h y) ∧ ∀ q, q ≠ 27 → q ≠ 29 → h' 388 q = h 388 q
theorem FA.trans {a b c : jH} (h1 : FA a b) (h2 : FA b c) : FA a c := ⟨fun y y1 y2 y3 => (h2.1 y y1 y2 y3).trans (h1.1 y y1 y2 y3), fun q hq hq2 => (h2.2 q hq hq2).trans (h1.2 q hq hq2)⟩
theorem FM.fa {a b : jH} (h1 : FM a b) : FA a b := ⟨fun y y1 y2 _ => h1.1 y y1 y2, fun q hq _ => h1.2 q hq⟩
theorem OGR.fa {h h' g : jH} {n : Nat} (k : OGR h g n) (f : FA h h') : OGR h' g n := ⟨by rw [f.2 25 (by decide) (by decide)]; exact k.1, fun i hi => by rw [f.1 403 (by decide) (by decide) (by decide), f.1 404 (by decide) (by decide) (by decide)]; exact k.2 i hi⟩
def FB (h h' : jH) : Prop := (∀ y, y ≠ 388 → y ≠ 406 → h' y = h y) ∧ ∀ q, q ≠ 29 → h' 388 q = h 388 q
set_option maxRecDepth 20000 in
set_option maxHeartbeats 1000000 in
theorem r_all_lp (l : Launch) (h g : jH) (n : Nat) (hg : OGR h g n) (hv : OGv g n) (e : Bool) (P : Option Value → jH → Prop) (hx : ∀ mem, (BL mem (vls g e n) ∧ FB h mem) → jT l 270 65 [some (.ref 388), some (.int (jI (zb e))), some (.int (jI ((n : Int))))] [] mem P) : ∀ (m : Nat) (k : Nat) (mem : jH), n - k < m → (k ≤ n ∧ BL mem (vls g e k) ∧ FB h mem) → jT l 270 7 [some (.ref 388), some (.int (jI (zb e))), some (.int (jI ((k : Int))))] [] mem P := by
  have n64 := hv.1
  have eb := zb_b e
  intro m
  induction m with
  | zero => intro k mem hk; omega
  | succ m ih =>
    intro k mem hk hi
    obtain ⟨i0, i1, fr⟩ := hi
    have hgm : OGR mem g n := ⟨by rw [fr.2 25 (by decide)]; exact hg.1, fun i hi => by rw [fr.1 403 (by decide) (by decide), fr.1 404 (by decide) (by decide)]; exact hg.2 i hi⟩
    have vb := (vls_b hv k i0).1
    have vl : (vls g e k).length ≤ k := by cases e <;> omega
    refine tl_iload_n rfl rfl ?_
    refine tl_aload_n rfl rfl ?_
    refine tl_geti (c := 12) (k9 := 25) rfl rfl rfl ?_
    rw [hgm.1]
    refine tl_icmp_ge (tgt := 65) rfl rfl ⟨by omega, by omega⟩ ⟨by omega, by omega⟩ (fun c1 => ?_) (fun c1 => ?_)
    · skip
      show jT _ _ 65 _ _ _ _
      -- leaf 0 at 65
      rw [show k = n by omega] at i1 ⊢
      exact hx mem ⟨i1, fr⟩
    · show jT _ _ 15 _ _ _ _
      refine tl_aload_n rfl rfl ?_
      refine tl_getr (c := 12) (k9 := 23) (b := 403) rfl rfl rfl rfl ?_
      show jT _ _ 19 _ _ _ _
      refine tl_iload_n rfl rfl ?_
      refine tl_iald (n := 64) rfl rfl rfl (by omega) (by omega) ?_
      rw [Int.toNat_natCast, (hgm.2 k (by omega)).1]
      have gb := (hv.2 k (by omega)).1
      refine tl_iconst rfl ?_
      refine tl_icmp_ne (tgt := 29) rfl rfl ⟨by omega, by omega⟩ ⟨by omega, by omega⟩ (fun c2 => ?_) (fun c2 => ?_)
      · skip
        refine tl_iconst rfl ?_
        refine tl_iload_n rfl rfl ?_
        refine tl_icmp_ne (tgt := 59) rfl rfl ⟨by omega, by omega⟩ ⟨by omega, by omega⟩ (fun c3 => ?_) (fun c3 => ?_)
        · skip
          show jT _ _ 59 _ _ _ _
          refine tl_iinc rfl rfl rfl ?_
          refine tl_goto (tgt := 7) rfl rfl ?_
          show jT _ _ 7 _ _ _ _
          -- leaf 1 at 7
          have ee : e = true ∨ e = false := by cases e <;> simp
          first
            | (have ev : vls g e (k + 1) = vls g e k ++ [g 1 k] := by
                 rw [vls]
                 rcases ee with ee | ee
                 · subst ee; have := zb_t (b := true) rfl; rw [if_pos (decide_eq_true (by omega))]
                 · subst ee; have := zb_f (b := false) rfl; rw [if_pos (decide_eq_false (by omega))]
               refine ih (k + 1) _ (by omega) ⟨by omega, ?_, fun y y1 y2 => by rw [hs_O y1, hs_O y2]; exact fr.1 y y1 y2, fun q hq => by rw [hs_k hq, hs_o (by decide)]; exact fr.2 q hq⟩
               rw [ev]
               refine ⟨by rw [hs_s, List.length_append]; show ((vls g e k).length : Int) + 1 = (((vls g e k).length + 1 : Nat) : Int); omega, fun i hi => ?_⟩
               rw [List.length_append] at hi
               have hi2 : i < (vls g e k).length + 1 := hi
               rw [hs_o (by decide), Int.toNat_natCast]
               by_cases c : i = (vls g e k).length
               · subst c; rw [hs_s, gd_s]
               · rw [hs_k c, gd_l (by omega)]; exact i1.2 i (by omega))
            | (have ev : vls g e (k + 1) = vls g e k := by
                 rw [vls]
                 rcases ee with ee | ee
                 · subst ee; have := zb_t (b := true) rfl; rw [if_neg (by rw [decide_eq_false (by omega)]; decide)]
                 · subst ee; have := zb_f (b := false) rfl; rw [if_neg (by rw [decide_eq_true (by omega)]; decide)]
               exact ih (k + 1) mem (by omega) ⟨by omega, by rw [ev]; exact i1, fr⟩)
        · show jT _ _ 34 _ _ _ _
          refine tl_aload_n rfl rfl ?_
          refine tl_getr (c := 12) (k9 := 28) (b := 406) rfl rfl rfl rfl ?_
          refine tl_aload_n rfl rfl ?_
          refine tl_geti (c := 12) (k9 := 29) rfl rfl rfl ?_
          rw [i1.1]
          refine tl_aload_n rfl rfl ?_
          show jT _ _ 43 _ _ _ _
          refine tl_getr (c := 12) (k9 := 24) (b := 404) rfl rfl rfl rfl ?_
          refine tl_iload_n rfl rfl ?_
          refine tl_iald (n := 64) rfl rfl rfl (by omega) (by omega) ?_
          rw [Int.toNat_natCast, (hgm.2 k (by omega)).2]
          refine tl_iast (n := 64) rfl rfl rfl (by omega) (by omega) ?_
          refine tl_aload_n rfl rfl ?_
          refine tl_dup rfl rfl ?_
          refine tl_geti (c := 12) (k9 := 29) rfl rfl rfl ?_
          rw [hs_o (by decide), i1.1]
          show jT _ _ 54 _ _ _ _
          refine tl_iconst rfl ?_
          refine tl_iadd rfl ?_
          refine tl_puti (c := 12) (k9 := 29) rfl rfl rfl rfl ?_
          refine tl_iinc rfl rfl rfl ?_
          refine tl_goto (tgt := 7) rfl rfl ?_
          show jT _ _ 7 _ _ _ _
          -- leaf 2 at 7
          have ee : e = true ∨ e = false := by cases e <;> simp
          first
            | (have ev : vls g e (k + 1) = vls g e k ++ [g 1 k] := by
                 rw [vls]
                 rcases ee with ee | ee
                 · subst ee; have := zb_t (b := true) rfl; rw [if_pos (decide_eq_true (by omega))]
                 · subst ee; have := zb_f (b := false) rfl; rw [if_pos (decide_eq_false (by omega))]
               refine ih (k + 1) _ (by omega) ⟨by omega, ?_, fun y y1 y2 => by rw [hs_O y1, hs_O y2]; exact fr.1 y y1 y2, fun q hq => by rw [hs_k hq, hs_o (by decide)]; exact fr.2 q hq⟩
               rw [ev]
               refine ⟨by rw [hs_s, List.length_append]; show ((vls g e k).length : Int) + 1 = (((vls g e k).length + 1 : Nat) : Int); omega, fun i hi => ?_⟩
               rw [List.length_append] at hi
               have hi2 : i < (vls g e k).length + 1 := hi
               rw [hs_o (by decide), Int.toNat_natCast]
               by_cases c : i = (vls g e k).length
               · subst c; rw [hs_s, gd_s]
               · rw [hs_k c, gd_l (by omega)]; exact i1.2 i (by omega))
            | (have ev : vls g e (k + 1) = vls g e k := by
                 rw [vls]
                 rcases ee with ee | ee
                 · subst ee; have := zb_t (b := true) rfl; rw [if_neg (by rw [decide_eq_false (by omega)]; decide)]
                 · subst ee; have := zb_f (b := false) rfl; rw [if_neg (by rw [decide_eq_true (by omega)]; decide)]
               exact ih (k + 1) mem (by omega) ⟨by omega, by rw [ev]; exact i1, fr⟩)
      · show jT _ _ 25 _ _ _ _
        refine tl_iconst rfl ?_
        refine tl_goto (tgt := 30) rfl rfl ?_
        show jT _ _ 30 _ _ _ _
        refine tl_iload_n rfl rfl ?_
        refine tl_icmp_ne (tgt := 59) rfl rfl ⟨by omega, by omega⟩ ⟨by omega, by omega⟩ (fun c4 => ?_) (fun c4 => ?_)
        · skip
          refine tl_iinc rfl rfl rfl ?_
          refine tl_goto (tgt := 7) rfl rfl ?_
          show jT _ _ 7 _ _ _ _
          -- leaf 3 at 7
          have ee : e = true ∨ e = false := by cases e <;> simp
          first
            | (have ev : vls g e (k + 1) = vls g e k ++ [g 1 k] := by
                 rw [vls]
                 rcases ee with ee | ee
                 · subst ee; have := zb_t (b := true) rfl; rw [if_pos (decide_eq_true (by omega))]
                 · subst ee; have := zb_f (b := false) rfl; rw [if_pos (decide_eq_false (by omega))]
               refine ih (k + 1) _ (by omega) ⟨by omega, ?_, fun y y1 y2 => by rw [hs_O y1, hs_O y2]; exact fr.1 y y1 y2, fun q hq => by rw [hs_k hq, hs_o (by decide)]; exact fr.2 q hq⟩
               rw [ev]
               refine ⟨by rw [hs_s, List.length_append]; show ((vls g e k).length : Int) + 1 = (((vls g e k).length + 1 : Nat) : Int); omega, fun i hi => ?_⟩
               rw [List.length_append] at hi
               have hi2 : i < (vls g e k).length + 1 := hi
               rw [hs_o (by decide), Int.toNat_natCast]
               by_cases c : i = (vls g e k).length
               · subst c; rw [hs_s, gd_s]
               · rw [hs_k c, gd_l (by omega)]; exact i1.2 i (by omega))
            | (have ev : vls g e (k + 1) = vls g e k := by
                 rw [vls]
                 rcases ee with ee | ee
                 · subst ee; have := zb_t (b := true) rfl; rw [if_neg (by rw [decide_eq_false (by omega)]; decide)]
                 · subst ee; have := zb_f (b := false) rfl; rw [if_neg (by rw [decide_eq_true (by omega)]; decide)]
               exact ih (k + 1) mem (by omega) ⟨by omega, by rw [ev]; exact i1, fr⟩)
        · show jT _ _ 34 _ _ _ _
          refine tl_aload_n rfl rfl ?_
          refine tl_getr (c := 12) (k9 := 28) (b := 406) rfl rfl rfl rfl ?_
          refine tl_aload_n rfl rfl ?_
          show jT _ _ 39 _ _ _ _
          refine tl_geti (c := 12) (k9 := 29) rfl rfl rfl ?_
          rw [i1.1]
          refine tl_aload_n rfl rfl ?_
          refine tl_getr (c := 12) (k9 := 24) (b := 404) rfl rfl rfl rfl ?_
          refine tl_iload_n rfl rfl ?_
          refine tl_iald (n := 64) rfl rfl rfl (by omega) (by omega) ?_
          rw [Int.toNat_natCast, (hgm.2 k (by omega)).2]
          refine tl_iast (n := 64) rfl rfl rfl (by omega) (by omega) ?_
          refine tl_aload_n rfl rfl ?_
          show jT _ _ 50 _ _ _ _
          refine tl_dup rfl rfl ?_
          refine tl_geti (c := 12) (k9 := 29) rfl rfl rfl ?_
          rw [hs_o (by decide), i1.1]
          refine tl_iconst rfl ?_
          refine tl_iadd rfl ?_
          refine tl_puti (c := 12) (k9 := 29) rfl rfl rfl rfl ?_
          refine tl_iinc rfl rfl rfl ?_
          refine tl_goto (tgt := 7) rfl rfl ?_
          show jT _ _ 7 _ _ _ _
          -- leaf 4 at 7
          have ee : e = true ∨ e = false := by cases e <;> simp
          first
            | (have ev : vls g e (k + 1) = vls g e k ++ [g 1 k] := by
                 rw [vls]
                 rcases ee with ee | ee
                 · subst ee; have := zb_t (b := true) rfl; rw [if_pos (decide_eq_true (by omega))]
                 · subst ee; have := zb_f (b := false) rfl; rw [if_pos (decide_eq_false (by omega))]
               refine ih (k + 1) _ (by omega) ⟨by omega, ?_, fun y y1 y2 => by rw [hs_O y1, hs_O y2]; exact fr.1 y y1 y2, fun q hq => by rw [hs_k hq, hs_o (by decide)]; exact fr.2 q hq⟩
               rw [ev]
               refine ⟨by rw [hs_s, List.length_append]; show ((vls g e k).length : Int) + 1 = (((vls g e k).length + 1 : Nat) : Int); omega, fun i hi => ?_⟩
               rw [List.length_append] at hi
               have hi2 : i < (vls g e k).length + 1 := hi
               rw [hs_o (by decide), Int.toNat_natCast]
               by_cases c : i = (vls g e k).length
               · subst c; rw [hs_s, gd_s]
               · rw [hs_k c, gd_l (by omega)]; exact i1.2 i (by omega))
            | (have ev : vls g e (k + 1) = vls g e k := by
                 rw [vls]
                 rcases ee with ee | ee
                 · subst ee; have := zb_t (b := true) rfl; rw [if_neg (by rw [decide_eq_false (by omega)]; decide)]
                 · subst ee; have := zb_f (b := false) rfl; rw [if_neg (by rw [decide_eq_true (by omega)]; decide)]
               exact ih (k + 1) mem (by omega) ⟨by omega, by rw [ev]; exact i1, fr⟩)
set_option maxRecDepth 20000 in
set_option maxHeartbeats 1000000 in
theorem r_addAll (l : Launch) (h g : jH) (n : Nat) (hg : OGR h g n) (hv : OGv g n) (e : Bool) (L : List Int) (kL : ML h L) (hL : L.length + 3 * (vls g e n).length ≤ 396) : cV l 270 [.ref 388, .int (jI (zb e))] h (fun h' => ML h' (L ++ pkb (vls g e n)) ∧ FA h h') := by
  have n64 := hv.1
  have vb := vls_b hv n (Nat.le_refl _)
  have vl : (vls g e n).length ≤ n := by cases e <;> omega
  refine cV.of rfl rfl ?_
  refine tl_aload_n rfl rfl ?_
  refine tl_iconst rfl ?_
  refine tl_puti (c := 12) (k9 := 29) rfl rfl rfl rfl ?_
  refine tl_iconst rfl ?_
  refine tl_istore_n rfl (Nat.le_of_ble_eq_true rfl) rfl ?_
  show jT _ _ 7 _ _ _ _
  -- leaf 0 at 7
  refine r_all_lp l h g n hg hv e _ (fun mem hj => ?_) _ 0 _ (Nat.lt_succ_self _) ⟨Nat.zero_le _, ⟨hs_s, fun i hi => absurd hi (by show ¬ i < 0; omega)⟩, fun y y1 _ => hs_O y1, fun q hq => hs_k hq⟩
  refine tl_aload_n rfl rfl ?_
  refine tl_v0v (c9 := 12) (r_shortest l mem (vls g e n) hj.1 (by omega) (by cases e; exact vb.2.1; exact vb.2.2) L hL ⟨by rw [hj.2.2 27 (by decide)]; exact kL.1, fun i hi => by rw [hj.2.1 405 (by decide) (by decide)]; exact kL.2 i hi⟩) rfl rfl rfl rfl rfl (Nat.le_of_ble_eq_true rfl) (fun h2 p2 => ?_)
  obtain ⟨k2, f2⟩ := p2
  refine tl_ret rfl ?_
  -- leaf 0 at 69
  exact ⟨rfl, k2, fun y y1 y2 y3 => (f2.1 y y1 y2).trans (hj.2.1 y y1 y3), fun q hq hq2 => (f2.2 q hq).trans (hj.2.2 q hq2)⟩
set_option maxRecDepth 20000 in
set_option maxHeartbeats 1000000 in
theorem r_mck_lp (l : Launch) (h : jH) (L : List Int) (kL : ML h L) (hL : L.length ≤ 400) (hB : LB L) (P : Option Value → jH → Prop) (hP : P (some (.int (jI (ckL L)))) h) : ∀ (m : Nat) (k : Nat), L.length - k < m → (k ≤ L.length) → jT l 260 4 [some (.ref 388), some (.int (jI (ckF (fun i => L.getD i 0) k))), some (.int (jI ((k : Int))))] [] h P := by
  intro m
  induction m with
  | zero => intro k hk; omega
  | succ m ih =>
    intro k hk hi
    have cb := ckF_b (fun i => L.getD i 0) k
    have es : ckF (fun i => L.getD i 0) (k + 1) = (3 * ckF (fun i => L.getD i 0) k + L.getD k 0) % 257 := rfl
    refine tl_iload_n rfl rfl ?_
    refine tl_aload_n rfl rfl ?_
    refine tl_geti (c := 12) (k9 := 27) rfl rfl rfl ?_
    rw [kL.1]
    refine tl_icmp_ge (tgt := 33) rfl rfl ⟨by omega, by omega⟩ ⟨by omega, by omega⟩ (fun c1 => ?_) (fun c1 => ?_)
    · skip
      refine tl_iload_n rfl rfl ?_
      refine tl_iret rfl ?_
      -- leaf 0 at 34
      have e : k = L.length := by omega
      rw [e]
      exact hP
    · show jT _ _ 12 _ _ _ _
      show jT _ _ 12 _ _ _ _
      refine tl_iconst rfl ?_
      refine tl_iload_n rfl rfl ?_
      refine tl_imul rfl ?_
      refine tl_aload_n rfl rfl ?_
      refine tl_getr (c := 12) (k9 := 26) (b := 405) rfl rfl rfl rfl ?_
      refine tl_iload_n rfl rfl ?_
      refine tl_iald (n := 400) rfl rfl rfl (by omega) (by omega) ?_
      rw [Int.toNat_natCast, kL.2 k (by omega)]
      have vb := hB.gd (i := k) (by omega)
      have vb1 := vb.1
      have vb2 := vb.2
      show jT _ _ 21 _ _ _ _
      refine tl_iadd rfl ?_
      refine tl_sipush rfl rfl ?_
      refine tl_irem rfl (by omega) (by omega) (by omega) (by omega) ?_
      refine tl_istore_n rfl (Nat.le_of_ble_eq_true rfl) rfl ?_
      refine tl_iinc rfl rfl rfl ?_
      refine tl_goto (tgt := 4) rfl rfl ?_
      show jT _ _ 4 _ _ _ _
      -- leaf 1 at 4
      refine jT.loc ?_ (ih (k + 1) (by omega) (by omega))
      rw [es]
      rfl
set_option maxRecDepth 20000 in
set_option maxHeartbeats 1000000 in
theorem r_madeCheck (l : Launch) (h : jH) (L : List Int) (kL : ML h L) (hL : L.length ≤ 400) (hB : LB L) : cI l 260 [.ref 388] h (fun z h' => h' = h ∧ z = ckL L) := by
  refine cI.of rfl rfl ?_
  refine tl_iconst rfl ?_
  refine tl_istore_n rfl (Nat.le_of_ble_eq_true rfl) rfl ?_
  refine tl_iconst rfl ?_
  refine tl_istore_n rfl (Nat.le_of_ble_eq_true rfl) rfl ?_
  show jT _ _ 4 _ _ _ _
  -- leaf 0 at 4
  exact r_mck_lp l h L kL hL hB _ ⟨_, rfl, rfl, rfl⟩ _ 0 (Nat.lt_succ_self _) (Nat.zero_le _)
def ckO (R : Nat → Int) : Int := ckF (fun i => R (6 + i)) (R 5).toNat
def ckN (R : Nat → Int) : Int := ckF (fun i => R (71 + i)) (R 70).toNat
set_option maxRecDepth 20000 in
set_option maxHeartbeats 1000000 in
theorem r_fckO_lp (l : Launch) (h : jH) (R : Nat → Int) (e390 : h 390 = R) (ok : Rok R) (P : Option Value → jH → Prop) (hP : P (some (.int (jI (ckO R)))) h) : ∀ (m : Nat) (k : Nat), (R 5).toNat - k < m → ((k : Int) ≤ R 5) → jT l 259 4 [some (.ref 388), some (.int (jI (0))), some (.int (jI (ckF (fun i => R (6 + i)) k))), some (.int (jI ((k : Int))))] [] h P := by
  have ok9 := ok
  obtain ⟨k1, k2, k3, k4, k5, k6, k7⟩ := ok9
  intro m
  induction m with
  | zero => intro k hk; omega
  | succ m ih =>
    intro k hk hi
    have cb := ckF_b (fun i => R (6 + i)) k
    have es : ckF (fun i => R (6 + i)) (k + 1) = (3 * ckF (fun i => R (6 + i)) k + R (6 + k)) % 257 := rfl
    refine tl_iload_n rfl rfl ?_
    refine tl_aload_n rfl rfl ?_
    refine tl_iload_n rfl rfl ?_
    refine tl_v1i (c9 := 12) (c_sizeOf l _ 0 (by decide) (by decide)) rfl rfl rfl rfl rfl (Nat.le_of_ble_eq_true rfl) (fun z1 h1 p1 => ?_)
    obtain ⟨q1, rfl⟩ := p1
    have q1 := q1.symm
    subst q1
    rw [show (5 + 65 * 0 : Int).toNat = 5 from rfl]
    rw [e390]
    refine tl_icmp_ge (tgt := 34) rfl rfl ⟨by omega, by omega⟩ ⟨by omega, by omega⟩ (fun c1 => ?_) (fun c1 => ?_)
    · skip
      refine tl_iload_n rfl rfl ?_
      show jT _ _ 35 _ _ _ _
      refine tl_iret rfl ?_
      -- leaf 0 at 35
      have e : k = (R 5).toNat := by omega
      rw [e]
      exact hP
    · show jT _ _ 13 _ _ _ _
      refine tl_iconst rfl ?_
      refine tl_iload_n rfl rfl ?_
      refine tl_imul rfl ?_
      refine tl_aload_n rfl rfl ?_
      refine tl_iload_n rfl rfl ?_
      refine tl_iload_n rfl rfl ?_
      show jT _ _ 19 _ _ _ _
      refine tl_v2i (c9 := 12) (c_at l _ 0 ((k : Int)) (by decide) (by decide) (by omega) (by omega)) rfl rfl rfl rfl rfl (Nat.le_of_ble_eq_true rfl) (fun z2 h2 p2 => ?_)
      obtain ⟨q2, p2⟩ := p2
      have q2 := q2.symm
      subst q2
      rw [show ((6 : Int) + 65 * 0 + ((k : Int))).toNat = 6 + ((k : Int)).toNat by omega, e390] at p2
      rw [Int.toNat_natCast] at p2
      have vb := k5 k (by omega)
      have vb1 := vb.1
      have vb2 := vb.2
      refine tl_iadd rfl ?_
      refine tl_sipush rfl rfl ?_
      refine tl_irem rfl (by omega) (by omega) (by omega) (by omega) ?_
      refine tl_istore_n rfl (Nat.le_of_ble_eq_true rfl) rfl ?_
      refine tl_iinc rfl rfl rfl ?_
      refine tl_goto (tgt := 4) rfl rfl ?_
      show jT _ _ 4 _ _ _ _
      -- leaf 1 at 4
      refine jT.loc ?_ (ih (k + 1) (by omega) (by omega))
      rw [es, ← p2]
      rfl
set_option maxRecDepth 20000 in
set_option maxHeartbeats 1000000 in
theorem r_fckO (l : Launch) (h : jH) (R : Nat → Int) (e390 : h 390 = R) (ok : Rok R) : cI l 259 [.ref 388, .int (jI 0)] h (fun z h' => h' = h ∧ z = ckO R) := by
  have ok9 := ok
  obtain ⟨k1, k2, k3, k4, k5, k6, k7⟩ := ok9
  refine cI.of rfl rfl ?_
  refine tl_iconst rfl ?_
  refine tl_istore_n rfl (Nat.le_of_ble_eq_true rfl) rfl ?_
  refine tl_iconst rfl ?_
  refine tl_istore_n rfl (Nat.le_of_ble_eq_true rfl) rfl ?_
  show jT _ _ 4 _ _ _ _
  -- leaf 0 at 4
  exact r_fckO_lp l h R e390 ok _ ⟨_, rfl, rfl, rfl⟩ _ 0 (Nat.lt_succ_self _) (by omega)
set_option maxRecDepth 20000 in
set_option maxHeartbeats 1000000 in
theorem r_fckN_lp (l : Launch) (h : jH) (R : Nat → Int) (e390 : h 390 = R) (ok : Rok R) (P : Option Value → jH → Prop) (hP : P (some (.int (jI (ckN R)))) h) : ∀ (m : Nat) (k : Nat), (R 70).toNat - k < m → ((k : Int) ≤ R 70) → jT l 259 4 [some (.ref 388), some (.int (jI (1))), some (.int (jI (ckF (fun i => R (71 + i)) k))), some (.int (jI ((k : Int))))] [] h P := by
  have ok9 := ok
  obtain ⟨k1, k2, k3, k4, k5, k6, k7⟩ := ok9
  intro m
  induction m with
  | zero => intro k hk; omega
  | succ m ih =>
    intro k hk hi
    have cb := ckF_b (fun i => R (71 + i)) k
    have es : ckF (fun i => R (71 + i)) (k + 1) = (3 * ckF (fun i => R (71 + i)) k + R (71 + k)) % 257 := rfl
    refine tl_iload_n rfl rfl ?_
    refine tl_aload_n rfl rfl ?_
    refine tl_iload_n rfl rfl ?_
    refine tl_v1i (c9 := 12) (c_sizeOf l _ 1 (by decide) (by decide)) rfl rfl rfl rfl rfl (Nat.le_of_ble_eq_true rfl) (fun z1 h1 p1 => ?_)
    obtain ⟨q1, rfl⟩ := p1
    have q1 := q1.symm
    subst q1
    rw [show (5 + 65 * 1 : Int).toNat = 70 from rfl]
    rw [e390]
    refine tl_icmp_ge (tgt := 34) rfl rfl ⟨by omega, by omega⟩ ⟨by omega, by omega⟩ (fun c1 => ?_) (fun c1 => ?_)
    · skip
      refine tl_iload_n rfl rfl ?_
      show jT _ _ 35 _ _ _ _
      refine tl_iret rfl ?_
      -- leaf 0 at 35
      have e : k = (R 70).toNat := by omega
      rw [e]
      exact hP
    · show jT _ _ 13 _ _ _ _
      refine tl_iconst rfl ?_
      refine tl_iload_n rfl rfl ?_
      refine tl_imul rfl ?_
      refine tl_aload_n rfl rfl ?_
      refine tl_iload_n rfl rfl ?_
      refine tl_iload_n rfl rfl ?_
      show jT _ _ 19 _ _ _ _
      refine tl_v2i (c9 := 12) (c_at l _ 1 ((k : Int)) (by decide) (by decide) (by omega) (by omega)) rfl rfl rfl rfl rfl (Nat.le_of_ble_eq_true rfl) (fun z2 h2 p2 => ?_)
      obtain ⟨q2, p2⟩ := p2
      have q2 := q2.symm
      subst q2
      rw [show ((6 : Int) + 65 * 1 + ((k : Int))).toNat = 71 + ((k : Int)).toNat by omega, e390] at p2
      rw [Int.toNat_natCast] at p2
      have vb := k6 k (by omega)
      have vb1 := vb.1
      have vb2 := vb.2
      refine tl_iadd rfl ?_
      refine tl_sipush rfl rfl ?_
      refine tl_irem rfl (by omega) (by omega) (by omega) (by omega) ?_
      refine tl_istore_n rfl (Nat.le_of_ble_eq_true rfl) rfl ?_
      refine tl_iinc rfl rfl rfl ?_
      refine tl_goto (tgt := 4) rfl rfl ?_
      show jT _ _ 4 _ _ _ _
      -- leaf 1 at 4
      refine jT.loc ?_ (ih (k + 1) (by omega) (by omega))
      rw [es, ← p2]
      rfl
set_option maxRecDepth 20000 in
set_option maxHeartbeats 1000000 in
theorem r_fckN (l : Launch) (h : jH) (R : Nat → Int) (e390 : h 390 = R) (ok : Rok R) : cI l 259 [.ref 388, .int (jI 1)] h (fun z h' => h' = h ∧ z = ckN R) := by
  have ok9 := ok
  obtain ⟨k1, k2, k3, k4, k5, k6, k7⟩ := ok9
  refine cI.of rfl rfl ?_
  refine tl_iconst rfl ?_
  refine tl_istore_n rfl (Nat.le_of_ble_eq_true rfl) rfl ?_
  refine tl_iconst rfl ?_
  refine tl_istore_n rfl (Nat.le_of_ble_eq_true rfl) rfl ?_
  show jT _ _ 4 _ _ _ _
  -- leaf 0 at 4
  exact r_fckN_lp l h R e390 ok _ ⟨_, rfl, rfl, rfl⟩ _ 0 (Nat.lt_succ_self _) (by omega)
set_option maxRecDepth 20000 in
set_option maxHeartbeats 1000000 in
theorem r_pack (l : Launch) (h g : jH) (n : Nat) (hg : OGR h g n) (hv : OGv g n) (os oc nc : Int) (o1 : 0 ≤ os ∧ os ≤ 64) (o2 : 0 ≤ oc ∧ oc < 16384) (o3 : 0 ≤ nc ∧ nc < 16384) : cV l 271 [.ref 388, .int (jI os), .int (jI oc), .int (jI (n : Int)), .int (jI nc)] h (fun h' => ML h' (PKL g n os oc nc) ∧ FA h h') := by
  have n64 := hv.1
  obtain ⟨b1, b2, b3, b4, b5, b6, b7⟩ := pk_b hv o1 o2 o3
  have vb := vls_b hv n (Nat.le_refl _)
  have pb := ptn_b (g := g) n
  have l1 := (nm_len (v := os)).2.1
  have l2 := (nm_len (v := oc)).2.1
  have l3 := (nm_len (v := (n : Int))).2.1
  have l4 := (nm_len (v := nc)).2.1
  have b8 := (pkb_b (V := vls g false n) (by omega) vb.2.1).1
  have b9 := (pkb_b (V := vls g true n) (by omega) vb.2.2).1
  have hg0 : OGR (hs h 388 27 0) g n := ⟨by rw [hs_k (by decide)]; exact hg.1, fun i hi => by rw [hs_o (by decide), hs_o (by decide)]; exact hg.2 i hi⟩
  refine cV.of rfl rfl ?_
  refine tl_aload_n rfl rfl ?_
  refine tl_iconst rfl ?_
  refine tl_puti (c := 12) (k9 := 27) rfl rfl rfl rfl ?_
  refine tl_aload_n rfl rfl ?_
  refine tl_iload_n rfl rfl ?_
  refine tl_v1v (c9 := 12) (r_addNum l (hs h 388 27 0) [] ⟨hs_s, fun i hi => absurd hi (by show ¬ i < 0; omega)⟩ (by show 0 + 2 ≤ 400; omega) os (by omega) (by omega)) rfl rfl rfl rfl rfl (Nat.le_of_ble_eq_true rfl) (fun h1 p1 => ?_)
  obtain ⟨k1, f1⟩ := p1
  rw [List.nil_append] at k1
  show jT _ _ 10 _ _ _ _
  refine tl_aload_n rfl rfl ?_
  refine tl_iload_n rfl rfl ?_
  refine tl_v1v (c9 := 12) (r_addNum l h1 (nm os) k1 (by (try simp only [List.length_append]); omega) oc (by omega) (by omega)) rfl rfl rfl rfl rfl (Nat.le_of_ble_eq_true rfl) (fun h2 p2 => ?_)
  obtain ⟨k2, f2⟩ := p2
  refine tl_aload_n rfl rfl ?_
  refine tl_iload_n rfl rfl ?_
  refine tl_v1v (c9 := 12) (r_addNum l h2 (nm os ++ nm oc) k2 (by (try simp only [List.length_append]); omega) (n : Int) (by omega) (by omega)) rfl rfl rfl rfl rfl (Nat.le_of_ble_eq_true rfl) (fun h3 p3 => ?_)
  obtain ⟨k3, f3⟩ := p3
  refine tl_aload_n rfl rfl ?_
  show jT _ _ 21 _ _ _ _
  refine tl_iload rfl rfl ?_
  refine tl_v1v (c9 := 12) (r_addNum l h3 (nm os ++ nm oc ++ nm (n : Int)) k3 (by (try simp only [List.length_append]); omega) nc (by omega) (by omega)) rfl rfl rfl rfl rfl (Nat.le_of_ble_eq_true rfl) (fun h4 p4 => ?_)
  obtain ⟨k4, f4⟩ := p4
  refine tl_aload_n rfl rfl ?_
  refine tl_aload_n rfl rfl ?_
  refine tl_v0i (c9 := 12) (r_partsNow l h4 g n ((((hg0.fm f1).fm f2).fm f3).fm f4) hv) rfl rfl rfl rfl rfl (Nat.le_of_ble_eq_true rfl) (fun z15 h15 p15 => ?_)
  obtain ⟨q15, rfl⟩ := p15
  have q15 := q15.symm
  subst q15
  refine tl_v1v (c9 := 12) (r_addNum l h4 (nm os ++ nm oc ++ nm (n : Int) ++ nm nc) k4 (by (try simp only [List.length_append]); omega) (ptn g n) (by omega) (by omega)) rfl rfl rfl rfl rfl (Nat.le_of_ble_eq_true rfl) (fun h5 p5 => ?_)
  obtain ⟨k5, f5⟩ := p5
  refine tl_aload_n rfl rfl ?_
  show jT _ _ 35 _ _ _ _
  refine tl_v0v (c9 := 12) (r_addParts l h5 g n (((((hg0.fm f1).fm f2).fm f3).fm f4).fm f5) hv (pkh g n os oc nc) b1.1 k5) rfl rfl rfl rfl rfl (Nat.le_of_ble_eq_true rfl) (fun h6 p6 => ?_)
  obtain ⟨k6, f6⟩ := p6
  have g6 := ((((((hg0.fm f1).fm f2).fm f3).fm f4).fm f5).fm f6)
  refine tl_aload_n rfl rfl ?_
  refine tl_iconst rfl ?_
  refine tl_v1v (c9 := 12) (r_addAll l h6 g n g6 hv false (pkp g n os oc nc) k6 (by omega)) rfl rfl rfl rfl rfl (Nat.le_of_ble_eq_true rfl) (fun h7 p7 => ?_)
  obtain ⟨k7, f7⟩ := p7
  refine tl_aload_n rfl rfl ?_
  refine tl_iconst rfl ?_
  refine tl_v1v (c9 := 12) (r_addAll l h7 g n (g6.fa f7) hv true (pkp g n os oc nc ++ pkb (vls g false n)) k7 (by rw [List.length_append]; omega)) rfl rfl rfl rfl rfl (Nat.le_of_ble_eq_true rfl) (fun h8 p8 => ?_)
  obtain ⟨k8, f8⟩ := p8
  change ML h8 (pkr g n os oc nc) at k8
  show jT _ _ 48 _ _ _ _
  refine tl_aload_n rfl rfl ?_
  refine tl_v0i (c9 := 12) (r_madeCheck l h8 _ k8 (by omega) b4) rfl rfl rfl rfl rfl (Nat.le_of_ble_eq_true rfl) (fun z11 h11 p11 => ?_)
  obtain ⟨q11, rfl⟩ := p11
  have q11 := q11.symm
  subst q11
  have cb := ckF_b (fun i => (pkr g n os oc nc).getD i 0) (pkr g n os oc nc).length
  have cb2 : 0 ≤ ckL (pkr g n os oc nc) ∧ ckL (pkr g n os oc nc) < 257 := cb
  refine tl_istore rfl (Nat.le_of_ble_eq_true rfl) rfl ?_
  refine tl_aload_n rfl rfl ?_
  refine tl_iload rfl rfl ?_
  refine tl_sipush rfl rfl ?_
  refine tl_idiv rfl (by omega) (by omega) (by omega) (by omega) ?_
  show jT _ _ 61 _ _ _ _
  refine tl_v1v (c9 := 12) (r_add l h8 _ k8 (by omega) (ckL (pkr g n os oc nc) / 256)) rfl rfl rfl rfl rfl (Nat.le_of_ble_eq_true rfl) (fun h13 p13 => ?_)
  obtain ⟨k13, f13⟩ := p13
  refine tl_aload_n rfl rfl ?_
  refine tl_iload rfl rfl ?_
  refine tl_sipush rfl rfl ?_
  refine tl_irem rfl (by omega) (by omega) (by omega) (by omega) ?_
  refine tl_v1v (c9 := 12) (r_add l h13 _ k13 (by rw [List.length_append]; show _ + 1 < 400; omega) (ckL (pkr g n os oc nc) % 256)) rfl rfl rfl rfl rfl (Nat.le_of_ble_eq_true rfl) (fun h14 p14 => ?_)
  obtain ⟨k14, f14⟩ := p14
  change ML h14 (PKL g n os oc nc) at k14
  refine tl_ret rfl ?_
  -- leaf 0 at 74
  have e0 : FM h (hs h 388 27 0) := ⟨fun y y1 _ => hs_O y1, fun q hq => hs_k hq⟩
  exact ⟨rfl, k14, (e0.trans (f1.trans (f2.trans (f3.trans (f4.trans (f5.trans f6)))))).fa.trans (f7.trans (f8.trans (f13.trans f14).fa))⟩
theorem og_v {R : Nat → Int} (hR : Rok R) {T : jH} {n : Nat} (ti : TI R T n) : ∀ a, a ≤ n → OGv (ogF R T a) (R 70).toNat := by
  have k2 := hR.2.1
  have k4 := hR.2.2.2.1
  intro a
  induction a with
  | zero => intro _; exact ⟨by omega, fun i hi => ⟨⟨by show (-1 : Int) ≤ -1; omega, by show (-1 : Int) ≤ 63; omega⟩, hR.2.2.2.2.2.1 i (by omega)⟩⟩
  | succ a ih =>
    intro ha
    have q := ih (by omega)
    refine ⟨q.1, fun i hi => ?_⟩
    rw [og_s, og_s]
    by_cases c : T 0 a - T 4 a ≤ (i : Int) ∧ (i : Int) < aE T a + T 3 a
    · have o := opn_t ((ti.2 a (by omega)).2.2 (i : Int) c.1 c.2)
      rw [if_pos c, if_pos c, if_pos rfl, if_neg (by decide)]
      exact ⟨by omega, by unfold byt; omega⟩
    · rw [if_neg c, if_neg c]; exact q.2 i hi
theorem ogT_v {R : Nat → Int} (hR : Rok R) {lst : Int} (l2 : 2 ≤ lst) : OGv (ogT R lst) (R 70).toNat := og_v hR (an_TI hR l2) _ (Nat.le_refl _)
def PKN (R : Nat → Int) (lst : Int) : List Int := PKL (ogT R lst) (R 70).toNat (R 5) (ckO R) (ckN R)
theorem ckO_b {R : Nat → Int} : 0 ≤ ckO R ∧ ckO R < 16384 := by have := ckF_b (fun i => R (6 + i)) (R 5).toNat; unfold ckO; omega
theorem ckN_b {R : Nat → Int} : 0 ≤ ckN R ∧ ckN R < 16384 := by have := ckF_b (fun i => R (71 + i)) (R 70).toNat; unfold ckN; omega
theorem PKN_b {R : Nat → Int} (hR : Rok R) {lst : Int} (l2 : 2 ≤ lst) : 2 ≤ (PKN R lst).length ∧ (PKN R lst).length ≤ 267 ∧ LB (PKN R lst) := (pk_b (ogT_v hR l2) ⟨hR.1, hR.2.1⟩ ckO_b ckN_b).2.2.2.2
set_option maxRecDepth 20000 in
set_option maxHeartbeats 1000000 in
theorem r_packNow (l : Launch) (h : jH) (R : Nat → Int) (hR : h 390 = R) (ok : Rok R) (hT : Rt R) (lst : Int) (l2 : 2 ≤ lst) (l9 : lst ≤ 9) : cV l 272 [.ref 388, .int (jI lst)] h (fun h' => ML h' (PKN R lst) ∧ (∀ x, (x ≠ 388 ∧ (x < 398 ∨ 406 < x)) → h' x = h x) ∧ ∀ q, (q < 14 ∨ (29 < q)) → h' 388 q = h 388 q) := by
  have ok9 := ok
  obtain ⟨k1, k2, k3, k4, k5, k6, k7⟩ := ok9
  refine cV.of rfl rfl ?_
  refine tl_aload_n rfl rfl ?_
  refine tl_iload_n rfl rfl ?_
  refine tl_v1v (c9 := 12) (r_layOrigins l h R hR ok hT lst l2 l9) rfl rfl rfl rfl rfl (Nat.le_of_ble_eq_true rfl) (fun h1 p1 => ?_)
  obtain ⟨⟨g1, g2⟩, ⟨g3, g4⟩, g5, g6⟩ := p1
  have e391 : h1 390 = R := by rw [g5 390 (by omega)]; exact hR
  refine tl_aload_n rfl rfl ?_
  refine tl_aload_n rfl rfl ?_
  refine tl_iconst rfl ?_
  show jT _ _ 8 _ _ _ _
  refine tl_v1i (c9 := 12) (c_sizeOf l _ 0 (by decide) (by decide)) rfl rfl rfl rfl rfl (Nat.le_of_ble_eq_true rfl) (fun z1 h1 p1 => ?_)
  obtain ⟨q1, rfl⟩ := p1
  have q1 := q1.symm
  subst q1
  rw [show (5 + 65 * 0 : Int).toNat = 5 from rfl]
  rw [e391]
  refine tl_aload_n rfl rfl ?_
  refine tl_iconst rfl ?_
  refine tl_v1i (c9 := 12) (r_fckO l h1 R e391 ok) rfl rfl rfl rfl rfl (Nat.le_of_ble_eq_true rfl) (fun z2 h2 p2 => ?_)
  obtain ⟨q2, rfl⟩ := p2
  have q2 := q2.symm
  subst q2
  refine tl_aload_n rfl rfl ?_
  refine tl_iconst rfl ?_
  refine tl_v1i (c9 := 12) (c_sizeOf l _ 1 (by decide) (by decide)) rfl rfl rfl rfl rfl (Nat.le_of_ble_eq_true rfl) (fun z3 h3 p3 => ?_)
  obtain ⟨q3, rfl⟩ := p3
  have q3 := q3.symm
  subst q3
  rw [show (5 + 65 * 1 : Int).toNat = 70 from rfl]
  rw [e391]
  show jT _ _ 21 _ _ _ _
  refine tl_aload_n rfl rfl ?_
  refine tl_iconst rfl ?_
  refine tl_v1i (c9 := 12) (r_fckN l h1 R e391 ok) rfl rfl rfl rfl rfl (Nat.le_of_ble_eq_true rfl) (fun z4 h4 p4 => ?_)
  obtain ⟨q4, rfl⟩ := p4
  have q4 := q4.symm
  subst q4
  rw [show jI (R 70) = jI (((R 70).toNat : Nat) : Int) by congr 1; omega]
  refine tl_v4v (c9 := 12) (r_pack l h1 (ogT R lst) (R 70).toNat ⟨by rw [g3]; omega, fun i hi => g4 i (by omega)⟩ (ogT_v ok l2) (R 5) (ckO R) (ckN R) ⟨k1, k2⟩ ckO_b ckN_b) rfl rfl rfl rfl rfl (Nat.le_of_ble_eq_true rfl) (fun h5 p5 => ?_)
  obtain ⟨k9, f5⟩ := p5
  refine tl_ret rfl ?_
  -- leaf 0 at 29
  exact ⟨rfl, k9, fun x hx => by rw [f5.1 x (by omega) (by omega) (by omega)]; exact g5 x (by omega), fun q hq => by rw [f5.2 q (by omega) (by omega)]; exact g6 q (by omega)⟩
