/-! recipes: a step read, of the reference -/
def SDR (h : jH) (L : List Int) : Prop := h 388 69 = (L.length : Int) ∧ ∀ i, i < L.length → h 425 i = L.getD i 0
theorem SDR.of {h h' : jH} {L : List Int} (k : SDR h L) (e1 : h' 388 69 = h 388 69) (e2 : h' 425 = h 425) : SDR h' L := ⟨by rw [e1]; exact k.1, fun i hi => by rw [e2]; exact k.2 i hi⟩
theorem SDR.ad {h : jH} {L : List Int} {v : Int} (k : SDR h L) : SDR (hs (hs h 425 L.length v) 388 69 ((L.length : Int) + 1)) (L ++ [v]) := by
  refine ⟨?_, fun i hi => ?_⟩
  · rw [hs_s, List.length_append]; show (L.length : Int) + 1 = ((L.length + 1 : Nat) : Int); omega
  · rw [List.length_append] at hi
    have hi2 : i < L.length + 1 := hi
    rw [hs_O (by decide)]
    by_cases c : i = L.length
    · subst c; rw [hs_s, gd_s]
    · rw [hs_k c, gd_l (by omega)]; exact k.2 i (by omega)
def FQx (h h' : jH) : Prop := (∀ x, x ≠ 388 → x ≠ 425 → h' x = h x) ∧ ∀ q, (q < 55 ∨ 60 < q) → q ≠ 69 → h' 388 q = h 388 q
theorem FQx.rfl9 {h : jH} : FQx h h := ⟨fun _ _ _ => rfl, fun _ _ _ => rfl⟩
theorem FQx.fb {a b c : jH} (h1 : FQx a b) (h2 : FBx b c) : FQx a c := ⟨fun x x1 x2 => (h2.1 x x1).trans (h1.1 x x1 x2), fun q q1 q2 => by rw [h2.2 q q1]; exact h1.2 q q1 q2⟩
theorem FQx.ad {a b : jH} {i : Nat} {v u : Int} (h1 : FQx a b) : FQx a (hs (hs b 425 i v) 388 69 u) := ⟨fun x x1 x2 => by rw [hs_O x1, hs_O x2]; exact h1.1 x x1 x2, fun q q1 q2 => by rw [hs_k q2, hs_O (by decide)]; exact h1.2 q q1 q2⟩
theorem RTx.ad {h : jH} {B : Nat → Int} {N f : Nat} {b : Bool} {i : Nat} {v u : Int} (k3 : RTx h B N b f) : RTx (hs (hs h 425 i v) 388 69 u) B N b f := ⟨⟨⟨by rw [hs_k (by decide), hs_o (by decide)]; exact k3.1.1.1, fun i hi => by rw [hs_O (by decide), hs_O (by decide)]; exact k3.1.1.2.1 i hi, k3.1.1.2.2⟩, by rw [hs_k (by decide), hs_o (by decide)]; exact k3.1.2.1, by rw [hs_k (by decide), hs_o (by decide)]; exact k3.1.2.2.1, by rw [hs_k (by decide), hs_o (by decide)]; exact k3.1.2.2.2.1, by rw [hs_k (by decide), hs_o (by decide)]; exact k3.1.2.2.2.2.1, k3.N9⟩, by rw [hs_k (by decide), hs_o (by decide)]; exact k3.2.1, fun z => by rw [hs_k (by decide), hs_o (by decide)]; exact k3.2.2.1 z, fun z => by rw [hs_k (by decide), hs_o (by decide)]; exact k3.2.2.2 z⟩
/-- behind a number: what is still to come -/
def cnS (B : Nat → Int) (N q : Nat) : (Bool × Nat) × List Int := if sg B N q 44 = true then sS9 B N (N + 1 - nx B N q) (nx B N q) else ((false, q), [])
theorem sS9_k {B : Nat → Int} {N p : Nat} (hp : p ≤ N) (h : nb B N p 0 255 = true) : (sS9 B N (N + 1 - p) p).1 = (cnS B N (nx B N p)).1 ∧ (sS9 B N (N + 1 - p) p).2 = nv B N p :: (cnS B N (nx B N p)).2 := by
  unfold cnS
  cases b : sg B N (nx B N p) 44 with
  | true => rw [sS9_s hp h b, if_pos rfl]; exact ⟨rfl, rfl⟩
  | false => rw [show N + 1 - p = (N - p) + 1 by omega, sS9_e h b, if_neg (by decide)]; exact ⟨rfl, rfl⟩
theorem sS9_q {B : Nat → Int} {N p : Nat} (hp : p ≤ N) (h : nb B N p 0 255 = false) : sS9 B N (N + 1 - p) p = ((true, p), []) := by
  rw [show N + 1 - p = (N - p) + 1 by omega, sS9_n h]
set_option maxRecDepth 20000 in
set_option maxHeartbeats 1000000 in
theorem r_rs_lp2 (l : Launch) (h : jH) (B : Nat → Int) (N k : Nat) (k24 : k < 24) (SD : List Int) (X : (Bool × Nat) × List Int) (P : Option Value → jH → Prop) (hx : ∀ mem, (RTx mem B N X.1.1 X.1.2 ∧ FQx h mem ∧ (X.1.1 = false → SDR mem (SD ++ X.2))) → jT l 324 87 [some (.ref 388), some (.int (jI ((k : Int))))] [] mem P) : ∀ (m : Nat) (b : Bool) (q : Nat) (L : List Int) (mem : jH), N + 1 - q + (if b = true then 0 else 1) < m → (RTx mem B N b q ∧ FQx h mem ∧ (b = true → X.1 = (true, q)) ∧ (b = false → X.1 = (cnS B N q).1 ∧ L ++ (cnS B N q).2 = X.2 ∧ SDR mem (SD ++ L) ∧ (SD ++ L).length < q)) → jT l 324 37 [some (.ref 388), some (.int (jI ((k : Int))))] [] mem P := by
  intro m
  induction m with
  | zero => intro b q L mem hk; omega
  | succ m ih =>
    intro b q L mem hk hi
    obtain ⟨rt, fr, xb, xg⟩ := hi
    have qN := rt.N9
    have b0 := zb_b b
    have n400 := rt.1.1.2.2.1
    refine tl_aload_n rfl rfl ?_
    refine tl_geti (c := 12) (k9 := 60) rfl rfl rfl ?_
    rw [rt.2.1]
    refine tl_if_ne (tgt := 87) rfl rfl ⟨by omega, by omega⟩ (fun c1 => ?_) (fun c1 => ?_)
    · skip
      have eb := zb1 c1
      show jT _ _ 87 _ _ _ _
      -- leaf 0 at 87
      cases b with
      | true =>
        have e := xb rfl
        refine hx mem ⟨by rw [e]; exact rt, fr, fun z => ?_⟩
        rw [e] at z; exact absurd (show true = false from z) (by decide)
      | false =>
        first
          | (exfalso; exact absurd eb (by decide))
          | (have g := xg rfl
             have ec : cnS B N q = ((false, q), []) := by rw [cnS, if_neg (by rw [es]; decide)]
             rw [ec] at g
             have g1 : X.1 = (false, q) := g.1
             have g2 : L = X.2 := by have := g.2.1; rw [List.append_nil] at this; exact this
             exact hx mem ⟨by rw [g1]; exact rt, fr, fun _ => by rw [← g2]; exact g.2.2.1⟩)
    · show jT _ _ 44 _ _ _ _
      have eb := zb0' c1
      refine tl_aload_n rfl rfl ?_
      refine tl_bipush rfl rfl ?_
      refine tl_v1i (c9 := 12) (r_isSgn l mem B N q rt.1 44 (by decide) (by decide) rfl rfl) rfl rfl rfl rfl rfl (Nat.le_of_ble_eq_true rfl) (fun z1 h1 p1 => ?_)
      obtain ⟨q1, rfl⟩ := p1
      have q1 := q1.symm
      subst q1
      have b1 := zb_b (sg B N q 44)
      show jT _ _ 50 _ _ _ _
      refine tl_if_eq (tgt := 87) rfl rfl ⟨by omega, by omega⟩ (fun c2 => ?_) (fun c2 => ?_)
      · skip
        have es := zb0 c2
        show jT _ _ 87 _ _ _ _
        -- leaf 1 at 87
        cases b with
        | true =>
          have e := xb rfl
          refine hx mem ⟨by rw [e]; exact rt, fr, fun z => ?_⟩
          rw [e] at z; exact absurd (show true = false from z) (by decide)
        | false =>
          first
            | (exfalso; exact absurd eb (by decide))
            | (have g := xg rfl
               have ec : cnS B N q = ((false, q), []) := by rw [cnS, if_neg (by rw [es]; decide)]
               rw [ec] at g
               have g1 : X.1 = (false, q) := g.1
               have g2 : L = X.2 := by have := g.2.1; rw [List.append_nil] at this; exact this
               exact hx mem ⟨by rw [g1]; exact rt, fr, fun _ => by rw [← g2]; exact g.2.2.1⟩)
      · show jT _ _ 53 _ _ _ _
        have es := zb1' c2
        refine tl_aload_n rfl rfl ?_
        refine tl_v0v (c9 := 12) (r_next l mem B N rt.1.1 (te B N q) (te_b qN).2.1 rt.1.2.2.1) rfl rfl rfl rfl rfl (Nat.le_of_ble_eq_true rfl) (fun h2 p2 => ?_)
        obtain ⟨t2, g2⟩ := p2
        change TR h2 B N (nx B N q) at t2
        have gx := xg eb
        have k2 : RTx h2 B N false (nx B N q) := ⟨t2, by rw [g2.2 60 (by omega), rt.2.1, eb], fun z => absurd z (by decide), fun _ => by rw [g2.2 59 (by omega)]; exact rt.2.2.2 eb⟩
        have ql := sg_lt (by decide) es
        have n2 := nx_b (B := B) qN
        have n2c := n2.2.2 ql
        refine tl_aload_n rfl rfl ?_
        refine tl_getr (c := 12) (k9 := 68) (b := 425) rfl rfl rfl rfl ?_
        refine tl_aload_n rfl rfl ?_
        refine tl_geti (c := 12) (k9 := 69) rfl rfl rfl ?_
        rw [g2.2 69 (by omega), gx.2.2.1.1]
        show jT _ _ 65 _ _ _ _
        refine tl_aload_n rfl rfl ?_
        refine tl_lconst (z := 0) rfl rfl ?_
        refine tl_ldc2 (z := 255) rfl (by decide +kernel) ?_
        refine tl_v2i (c9 := 12) (r_number l h2 B N false (nx B N q) k2 0 255 (by decide) (by decide) (by decide) (by decide)) rfl rfl rfl rfl rfl (Nat.le_of_ble_eq_true rfl) (fun z4 h4 p4 => ?_)
        obtain ⟨e4, k4, g4⟩ := p4
        subst e4
        refine tl_iast (n := 400) rfl rfl rfl (by omega) (by omega) ?_
        rw [Int.toNat_natCast]
        refine tl_aload_n rfl rfl ?_
        refine tl_dup rfl rfl ?_
        show jT _ _ 76 _ _ _ _
        refine tl_geti (c := 12) (k9 := 69) rfl rfl rfl ?_
        rw [hs_o (by decide), g4.2 69 (by omega), g2.2 69 (by omega), gx.2.2.1.1]
        refine tl_iconst rfl ?_
        refine tl_iadd rfl ?_
        refine tl_puti (c := 12) (k9 := 69) rfl rfl rfl rfl ?_
        refine tl_goto (tgt := 37) rfl rfl ?_
        show jT _ _ 37 _ _ _ _
        -- leaf 2 at 37
        have ec : cnS B N q = sS9 B N (N + 1 - (nx B N q)) (nx B N q) := by rw [cnS, if_pos es]
        rw [ec] at gx
        have sd4 : SDR h4 (SD ++ L) := gx.2.2.1.of (by rw [g4.2 69 (by omega), g2.2 69 (by omega)]) (by rw [g4.1 425 (by decide), g2.1 425 (by decide)])
        cases en : nb B N (nx B N q) 0 255 with
        | true =>
          have nl := nb_lt en
          have n3 := nx_b (B := B) (f := (nx B N q)) n2.2.1
          have n3c := n3.2.2 nl
          have sk9 := sS9_k n2.2.1 en
          rw [sk9.1, sk9.2] at gx
          have nvv := nb_v n2.2.1 (by decide) en
          have k4b : RTx h4 B N false (nx B N (nx B N q)) := by have z := k4; rw [en] at z; exact z
          refine ih false (nx B N (nx B N q)) (L ++ [nv B N (nx B N q)]) _ (by rw [if_neg (by decide)]; rw [eb, if_neg (by decide)] at hk; omega) ⟨k4b.ad, ((fr.fb g2.fb).fb g4).ad, fun z => absurd z (by decide), fun _ => ⟨gx.1, by rw [List.append_assoc]; exact gx.2.1, ?_, ?_⟩⟩
          · have z := sd4.ad (v := nv B N (nx B N q))
            rw [List.append_assoc] at z
            rw [nvv.1]; exact z
          · have z := gx.2.2.2; rw [List.length_append] at z; rw [List.length_append, List.length_append]; show _ + (_ + 1) < _; omega
        | false =>
          have k4b : RTx h4 B N true (nx B N q) := by have z := k4; rw [en] at z; exact z
          rw [sS9_q n2.2.1 en] at gx
          exact ih true (nx B N q) L _ (by rw [if_pos rfl]; rw [eb, if_neg (by decide)] at hk; omega) ⟨k4b.ad, ((fr.fb g2.fb).fb g4).ad, fun _ => gx.1, fun z => absurd z (by decide)⟩
set_option maxRecDepth 20000 in
set_option maxHeartbeats 1000000 in
theorem r_readSaid (l : Launch) (h : jH) (B : Nat → Int) (N f k : Nat) (k24 : k < 24) (rt : RTx h B N false (nx B N f)) (SD : List Int) (sd : SDR h SD) (bd : SD.length < (nx B N f)) : cV l 324 [.ref 388, .int (jI (k : Int))] h (fun h' => RTx h' B N (sSy B N f).1.1 (sSy B N f).1.2 ∧ ((∀ x, x ≠ 388 → x ≠ 421 → x ≠ 422 → x ≠ 425 → h' x = h x) ∧ (∀ q, q ≠ k → h' 421 q = h 421 q ∧ h' 422 q = h 422 q) ∧ ∀ q, (q < 55 ∨ 60 < q) → q ≠ 69 → h' 388 q = h 388 q) ∧ ((sSy B N f).1.1 = false → SDR h' (SD ++ (sSy B N f).2) ∧ h' 421 k = (SD.length : Int) ∧ h' 422 k = (SD.length : Int) + ((sSy B N f).2.length : Int))) := by
  have n400 := rt.1.1.2.2.1
  have fN := rt.N9
  have rt1 : RTx (hs h 421 k (SD.length : Int)) B N false (nx B N f) := rt.s9 (by decide) (by decide)
  refine cV.of rfl rfl ?_
  refine tl_aload_n rfl rfl ?_
  refine tl_getr (c := 12) (k9 := 64) (b := 421) rfl rfl rfl rfl ?_
  refine tl_iload_n rfl rfl ?_
  refine tl_aload_n rfl rfl ?_
  refine tl_geti (c := 12) (k9 := 69) rfl rfl rfl ?_
  rw [sd.1]
  refine tl_iast (n := 24) rfl rfl rfl (by omega) (by omega) ?_
  rw [Int.toNat_natCast]
  show jT _ _ 10 _ _ _ _
  refine tl_aload_n rfl rfl ?_
  refine tl_getr (c := 12) (k9 := 68) (b := 425) rfl rfl rfl rfl ?_
  refine tl_aload_n rfl rfl ?_
  refine tl_geti (c := 12) (k9 := 69) rfl rfl rfl ?_
  rw [hs_o (by decide), sd.1]
  refine tl_aload_n rfl rfl ?_
  refine tl_lconst (z := 0) rfl rfl ?_
  refine tl_ldc2 (z := 255) rfl (by decide +kernel) ?_
  show jT _ _ 23 _ _ _ _
  refine tl_v2i (c9 := 12) (r_number l (hs h 421 k (SD.length : Int)) B N false (nx B N f) rt1 0 255 (by decide) (by decide) (by decide) (by decide)) rfl rfl rfl rfl rfl (Nat.le_of_ble_eq_true rfl) (fun z3 h3 p3 => ?_)
  obtain ⟨e3, k3, g3⟩ := p3
  subst e3
  refine tl_iast (n := 400) rfl rfl rfl (by omega) (by omega) ?_
  rw [Int.toNat_natCast]
  refine tl_aload_n rfl rfl ?_
  refine tl_dup rfl rfl ?_
  refine tl_geti (c := 12) (k9 := 69) rfl rfl rfl ?_
  rw [hs_o (by decide), g3.2 69 (by omega), hs_o (by decide), sd.1]
  refine tl_iconst rfl ?_
  refine tl_iadd rfl ?_
  show jT _ _ 34 _ _ _ _
  refine tl_puti (c := 12) (k9 := 69) rfl rfl rfl rfl ?_
  show jT _ _ 37 _ _ _ _
  -- leaf 0 at 37
  have sd3 : SDR h3 SD := sd.of (by rw [g3.2 69 (by omega), hs_o (by decide)]) (by rw [g3.1 425 (by decide), hs_O (by decide)])
  refine r_rs_lp2 l (hs h 421 k (SD.length : Int)) B N k k24 SD (sSy B N f) _ (fun mem hj => ?_) _ (mv9 B N false (nx B N f) (nb B N (nx B N f) 0 255)).1 (mv9 B N false (nx B N f) (nb B N (nx B N f) 0 255)).2 [nv B N (nx B N f)] _ (Nat.lt_succ_self _) ⟨k3.ad, (FQx.rfl9.fb g3).ad, fun z => ?_, fun z => ?_⟩
  · obtain ⟨km, fm, sm⟩ := hj
    refine tl_aload_n rfl rfl ?_
    refine tl_getr (c := 12) (k9 := 65) (b := 422) rfl rfl rfl rfl ?_
    refine tl_iload_n rfl rfl ?_
    refine tl_aload_n rfl rfl ?_
    refine tl_geti (c := 12) (k9 := 69) rfl rfl rfl ?_
    refine tl_iast (n := 24) rfl rfl rfl (by omega) (by omega) ?_
    rw [Int.toNat_natCast]
    show jT _ _ 97 _ _ _ _
    refine tl_ret rfl ?_
    -- leaf 0 at 97
    refine ⟨rfl, km.s9 (by decide) (by decide), ⟨fun x a b c d => by rw [hs_O c, fm.1 x a d, hs_O b], fun q hq => ⟨by rw [hs_o (by decide), fm.1 421 (by decide) (by decide), hs_k hq], by rw [hs_k hq, fm.1 422 (by decide) (by decide), hs_o (by decide)]⟩, fun q a b => by rw [hs_o (by decide), fm.2 q a b, hs_o (by decide)]⟩, fun z => ⟨(sm z).of (by rw [hs_o (by decide)]) (hs_O (by decide)), by rw [hs_o (by decide), fm.1 421 (by decide) (by decide), hs_s], ?_⟩⟩
    rw [hs_s, (sm z).1, List.length_append]; omega
  · cases en : nb B N (nx B N f) 0 255 with
    | true => rw [en] at z; exact absurd (show false = true from z) (by decide)
    | false => show (sS9 B N (N + 1 - (nx B N f)) (nx B N f)).1 = _; rw [sS9_q fN en]; rfl
  · cases en : nb B N (nx B N f) 0 255 with
    | false => rw [en] at z; exact absurd (show true = false from z) (by decide)
    | true =>
      have nl := nb_lt en
      have n3c := (nx_b (B := B) fN).2.2 nl
      have sk9 := sS9_k fN en
      have nvv := nb_v fN (by decide) en
      refine ⟨sk9.1, sk9.2.symm, by rw [nvv.1]; exact sd3.ad, ?_⟩
      rw [List.length_append]; show SD.length + 1 < nx B N (nx B N f); omega
