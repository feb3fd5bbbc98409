/-! recipes: all steps read, of the reference -/
def RRt (h T : jH) (ns : Nat) : Prop := ∀ i, i < ns → h 420 i = T 0 i ∧ (T 0 i ≠ 2 → h 421 i = T 1 i) ∧ (T 0 i = 2 → h 421 i = T 2 i ∧ h 422 i = T 2 i + T 1 i) ∧ (T 0 i ≠ 2 → T 0 i ≠ 4 → h 422 i = T 2 i) ∧ (T 0 i = 0 → h 423 i = T 3 i)
def RRg (B : Nat → Int) (N : Nat) (h : jH) (f ns d : Nat) (T : jH) (SD : List Int) : Prop := RTx h B N false f ∧ h 388 62 = (ns : Int) ∧ h 388 72 = (d : Int) ∧ d ≤ 4 ∧ ns ≤ 24 ∧ RRt h T ns ∧ (∀ e, e < d → h 426 e = T 5 e ∧ 0 ≤ T 5 e ∧ T 5 e < 24) ∧ OV 424 h T ns d ∧ SDR h SD ∧ SD.length ≤ f
def FLR (h h' : jH) : Prop := (∀ x, x ≠ 388 → (x < 420 ∨ 426 < x) → h' x = h x) ∧ ∀ q, (q < 55 ∨ 60 < q) → q ≠ 62 → q ≠ 69 → q ≠ 72 → h' 388 q = h 388 q
theorem rr_rel {B : Nat → Int} {N : Nat} {h h' T : jH} {f ns d : Nat} {SD : List Int} (k : RRt h T ns) (fr : FSR ns d h h') (g : GR9 B N f d ns SD h') : RRt h' (tb9 B N T ns f SD) (ns + 1) := by
  intro i hi
  by_cases e : i = ns
  · subst e
    have t := tb9_n (B := B) (N := N) (T := T) (ns := i) (f := f) (SD := SD)
    rw [t.1, t.2.1, t.2.2.1, t.2.2.2]
    refine ⟨g.1, g.2.1, fun q => ?_, g.2.2.2.1, g.2.2.2.2.1⟩
    have z := g.2.2.1 q
    rw [vW9, if_pos q]
    exact z
  · rw [tb9_o (Or.inl e), tb9_o (Or.inl e), tb9_o (Or.inl e), tb9_o (Or.inl e), fr.2.1 420 (by decide) (by decide) i e, fr.2.1 421 (by decide) (by decide) i e, fr.2.1 422 (by decide) (by decide) i e, fr.2.1 423 (by decide) (by decide) i e]
    exact k i (by omega)
theorem nx_N {B : Nat → Int} {N f : Nat} (h : f ≤ N) (h2 : N ≤ f) : nx B N f = f := by
  have := nx_b (B := B) h
  omega
set_option maxRecDepth 20000 in
set_option maxHeartbeats 1000000 in
theorem r_x7 (l : Launch) (mem : jH) (B : Nat → Int) (N f : Nat) (b : Bool) (rt : RTx mem B N b f) (mo : Int) (hm : mo = 0 ∨ mo = 1) (hx : b = true ∨ mo = 0) (P : Option Value → jH → Prop) (hP : P none mem) : jT l 328 7 [some (.ref 388), some (.int (jI (mo)))] [] mem P := by
  have bb := zb_b b
  refine tl_aload_n rfl rfl ?_
  refine tl_geti (c := 12) (k9 := 60) rfl rfl rfl ?_
  rw [rt.2.1]
  refine tl_if_ne (tgt := 145) rfl rfl ⟨by omega, by omega⟩ (fun c1 => ?_) (fun c1 => ?_)
  · skip
    have eb := zb1 c1
    refine tl_ret rfl ?_
    -- leaf 0 at 145
    exact hP
  · show jT _ _ 14 _ _ _ _
    have eb := zb0' c1
    refine tl_iload_n rfl rfl ?_
    refine tl_if_eq (tgt := 145) rfl rfl ⟨by omega, by omega⟩ (fun c2 => ?_) (fun c2 => ?_)
    · skip
      show jT _ _ 145 _ _ _ _
      refine tl_ret rfl ?_
      -- leaf 1 at 145
      exact hP
    · show jT _ _ 18 _ _ _ _
      show jT _ _ 18 _ _ _ _
      -- leaf 2 at 18
      exfalso
      rcases hx with q | q
      · rw [eb] at q; exact absurd q (by decide)
      · omega
set_option maxRecDepth 20000 in
set_option maxHeartbeats 1000000 in
theorem r_rr115 (l : Launch) (mem : jH) (B : Nat → Int) (N f : Nat) (b : Bool) (rt : RTx mem B N b f) (P : Option Value → jH → Prop) (hx : ∀ m4, RTx m4 B N (mv9 B N b f (sg B N f 59 || decide (N ≤ f))).1 (mv9 B N b f (sg B N f 59 || decide (N ≤ f))).2 → FBx mem m4 → jT l 328 7 [some (.ref 388), some (.int (jI (zb (sg B N f 59))))] [] m4 P) : jT l 328 115 [some (.ref 388), some (.int (jI (1)))] [] mem P := by
  have fN := rt.N9
  have sr := srt9_r (B := B) (N := N) (f := f)
  refine tl_aload_n rfl rfl ?_
  refine tl_bipush rfl rfl ?_
  refine tl_v1i (c9 := 12) (r_isSgn l mem B N f rt.1 59 (by decide) (by decide) rfl rfl) rfl rfl rfl rfl rfl (Nat.le_of_ble_eq_true rfl) (fun z1 h1 p1 => ?_)
  obtain ⟨q1, rfl⟩ := p1
  have q1 := q1.symm
  subst q1
  have b1 := zb_b (sg B N f 59)
  refine tl_istore_n rfl (Nat.le_of_ble_eq_true rfl) rfl ?_
  refine tl_aload_n rfl rfl ?_
  refine tl_iload_n rfl rfl ?_
  show jT _ _ 124 _ _ _ _
  refine tl_if_ne (tgt := 134) rfl rfl ⟨by omega, by omega⟩ (fun c1 => ?_) (fun c1 => ?_)
  · skip
    have e59 := zb1 c1
    refine tl_iconst rfl ?_
    refine tl_goto (tgt := 139) rfl rfl ?_
    refine tl_v1v (c9 := 12) (r_mustZ l mem B N b f rt _ (sg B N f 59 || decide (N ≤ f)) (by first | (rw [e59]; rfl) | (rw [e59, decide_eq_true (show N ≤ f by omega)]; rfl) | (rw [e59, decide_eq_false (show ¬ N ≤ f by omega)]; rfl))) rfl rfl rfl rfl rfl (Nat.le_of_ble_eq_true rfl) (fun m4 p4 => ?_)
    refine tl_goto (tgt := 7) rfl rfl ?_
    show jT _ _ 7 _ _ _ _
    -- leaf 0 at 7
    exact hx m4 p4.1 p4.2
  · show jT _ _ 127 _ _ _ _
    have e59 := zb0' c1
    refine tl_aload_n rfl rfl ?_
    refine tl_geti (c := 12) (k9 := 57) rfl rfl rfl ?_
    rw [rt.1.2.2.2.1]
    show jT _ _ 131 _ _ _ _
    refine tl_if_ne (tgt := 138) rfl rfl ⟨by omega, by omega⟩ (fun c2 => ?_) (fun c2 => ?_)
    · skip
      refine tl_iconst rfl ?_
      refine tl_v1v (c9 := 12) (r_mustZ l mem B N b f rt _ (sg B N f 59 || decide (N ≤ f)) (by first | (rw [e59]; rfl) | (rw [e59, decide_eq_true (show N ≤ f by omega)]; rfl) | (rw [e59, decide_eq_false (show ¬ N ≤ f by omega)]; rfl))) rfl rfl rfl rfl rfl (Nat.le_of_ble_eq_true rfl) (fun m4 p4 => ?_)
      refine tl_goto (tgt := 7) rfl rfl ?_
      show jT _ _ 7 _ _ _ _
      -- leaf 1 at 7
      exact hx m4 p4.1 p4.2
    · show jT _ _ 134 _ _ _ _
      refine tl_iconst rfl ?_
      refine tl_goto (tgt := 139) rfl rfl ?_
      refine tl_v1v (c9 := 12) (r_mustZ l mem B N b f rt _ (sg B N f 59 || decide (N ≤ f)) (by first | (rw [e59]; rfl) | (rw [e59, decide_eq_true (show N ≤ f by omega)]; rfl) | (rw [e59, decide_eq_false (show ¬ N ≤ f by omega)]; rfl))) rfl rfl rfl rfl rfl (Nat.le_of_ble_eq_true rfl) (fun m4 p4 => ?_)
      show jT _ _ 142 _ _ _ _
      refine tl_goto (tgt := 7) rfl rfl ?_
      show jT _ _ 7 _ _ _ _
      -- leaf 2 at 7
      exact hx m4 p4.1 p4.2
set_option maxRecDepth 20000 in
set_option maxHeartbeats 1000000 in
theorem r_cb_lp (l : Launch) (h : jH) (B : Nat → Int) (N ns n9 : Nat) (X : Nat × Nat × jH) (P : Option Value → jH → Prop) (hx : ∀ mem, (RTx mem B N false X.1 ∧ (X.2.1 = 0 ∨ sg B N X.1 59 = true) ∧ mem 388 72 = (X.2.1 : Int) ∧ OV 424 mem X.2.2 n9 X.2.1 ∧ (∀ x, x ≠ 388 → x ≠ 424 → mem x = h x) ∧ ∀ q, (q < 55 ∨ 60 < q) → q ≠ 72 → mem 388 q = h 388 q) → jT l 328 115 [some (.ref 388), some (.int (jI (1)))] [] mem P) (hb : ∀ mem, (RTx mem B N true X.1 ∧ sg B N X.1 59 = false ∧ X.2.1 ≠ 0 ∧ (∀ x, x ≠ 388 → x ≠ 424 → mem x = h x) ∧ ∀ q, (q < 55 ∨ 60 < q) → q ≠ 72 → mem 388 q = h 388 q) → jT l 328 44 [some (.ref 388), some (.int (jI (1)))] [] mem P) : ∀ (m : Nat) (d : Nat) (f : Nat) (T : jH) (mem : jH), d < m → (d ≤ 4 ∧ RTx mem B N false f ∧ mem 388 72 = (d : Int) ∧ OV 424 mem T n9 d ∧ (∀ e, e < d → mem 426 e = T 5 e ∧ 0 ≤ T 5 e ∧ T 5 e < 24) ∧ mem 388 62 = (ns : Int) ∧ cb9 B N ns d f T = X ∧ (∀ x, x ≠ 388 → x ≠ 424 → mem x = h x) ∧ ∀ q, (q < 55 ∨ 60 < q) → q ≠ 72 → mem 388 q = h 388 q) → jT l 328 44 [some (.ref 388), some (.int (jI (1)))] [] mem P := by
  intro m
  induction m with
  | zero => intro d f T mem hk; omega
  | succ m ih =>
    intro d f T mem hk hi
    obtain ⟨d4, rt, ed, ov, op, en, eX, fr, fr2⟩ := hi
    refine tl_aload_n rfl rfl ?_
    refine tl_geti (c := 12) (k9 := 60) rfl rfl rfl ?_
    rw [rt.2.1, show zb false = 0 from rfl]
    refine tl_if_ne (tgt := 115) rfl rfl ⟨by omega, by omega⟩ (fun c1 => ?_) (fun c1 => ?_)
    · skip
      exfalso; omega
    · show jT _ _ 51 _ _ _ _
      refine tl_aload_n rfl rfl ?_
      refine tl_geti (c := 12) (k9 := 72) rfl rfl rfl ?_
      rw [ed]
      refine tl_if_le (tgt := 115) rfl rfl ⟨by omega, by omega⟩ (fun c2 => ?_) (fun c2 => ?_)
      · skip
        show jT _ _ 115 _ _ _ _
        -- leaf 0 at 115
        first
          | (have d0 : d = 0 := by omega
             rw [cb9_f (Or.inl d0)] at eX
             subst eX
             exact hx mem ⟨rt, Or.inl d0, ed, ov, fr, fr2⟩)
          | (have n41 : sg B N f 41 = false := Bool.eq_false_iff.mpr (fun q => by have a := of_decide_eq_true q; have c := of_decide_eq_true e59; omega)
             rw [cb9_f (Or.inr n41)] at eX
             subst eX
             exact hx mem ⟨rt, Or.inr e59, ed, ov, fr, fr2⟩)
      · show jT _ _ 58 _ _ _ _
        show jT _ _ 58 _ _ _ _
        refine tl_aload_n rfl rfl ?_
        refine tl_bipush rfl rfl ?_
        refine tl_v1i (c9 := 12) (r_isSgn l mem B N f rt.1 59 (by decide) (by decide) rfl rfl) rfl rfl rfl rfl rfl (Nat.le_of_ble_eq_true rfl) (fun z1 h1 p1 => ?_)
        obtain ⟨q1, rfl⟩ := p1
        have q1 := q1.symm
        subst q1
        have b1 := zb_b (sg B N f 59)
        refine tl_if_ne (tgt := 115) rfl rfl ⟨by omega, by omega⟩ (fun c3 => ?_) (fun c3 => ?_)
        · skip
          have e59 := zb1 c3
          show jT _ _ 115 _ _ _ _
          -- leaf 1 at 115
          first
            | (have d0 : d = 0 := by omega
               rw [cb9_f (Or.inl d0)] at eX
               subst eX
               exact hx mem ⟨rt, Or.inl d0, ed, ov, fr, fr2⟩)
            | (have n41 : sg B N f 41 = false := Bool.eq_false_iff.mpr (fun q => by have a := of_decide_eq_true q; have c := of_decide_eq_true e59; omega)
               rw [cb9_f (Or.inr n41)] at eX
               subst eX
               exact hx mem ⟨rt, Or.inr e59, ed, ov, fr, fr2⟩)
        · show jT _ _ 67 _ _ _ _
          have e59 := zb0' c3
          refine tl_aload_n rfl rfl ?_
          refine tl_aload_n rfl rfl ?_
          refine tl_bipush rfl rfl ?_
          show jT _ _ 71 _ _ _ _
          refine tl_v1i (c9 := 12) (r_isSgn l mem B N f rt.1 41 (by decide) (by decide) rfl rfl) rfl rfl rfl rfl rfl (Nat.le_of_ble_eq_true rfl) (fun z2 h2 p2 => ?_)
          obtain ⟨q2, rfl⟩ := p2
          have q2 := q2.symm
          subst q2
          refine tl_v1v (c9 := 12) (r_must l mem B N false f rt (sg B N f 41)) rfl rfl rfl rfl rfl (Nat.le_of_ble_eq_true rfl) (fun h3 p3 => ?_)
          obtain ⟨k3, g3⟩ := p3
          have b3 := zb_b (mv9 B N false f (sg B N f 41)).1
          refine tl_aload_n rfl rfl ?_
          refine tl_geti (c := 12) (k9 := 60) rfl rfl rfl ?_
          rw [k3.2.1]
          refine tl_if_ne (tgt := 44) rfl rfl ⟨by omega, by omega⟩ (fun c4 => ?_) (fun c4 => ?_)
          · skip
            have eb := zb1 c4
            show jT _ _ 44 _ _ _ _
            -- leaf 2 at 44
            first
              | (have n41 : sg B N f 41 = false := Bool.eq_false_iff.mpr (fun q => by rw [q, mv9_t] at eb; exact absurd (show false = true from eb) (by decide))
                 rw [n41, mv9_f] at k3
                 rw [cb9_f (Or.inr n41)] at eX
                 subst eX
                 exact hb h3 ⟨k3, e59, by show d ≠ 0; omega, fun x a b => by rw [g3.1 x a]; exact fr x a b, fun q a b => by rw [g3.2 q a]; exact fr2 q a b⟩)
              | (have y41 : sg B N f 41 = true := by cases z : sg B N f 41 with | true => rfl | false => rw [z, mv9_f] at eb; exact absurd (show true = false from eb) (by decide)
                 rw [y41, mv9_t] at k3
                 obtain ⟨d9, hd9e⟩ : ∃ d9, d = d9 + 1 := ⟨d - 1, by omega⟩
                 subst hd9e
                 rw [cb9_t y41] at eX
                 have o2 := op d9 (by omega)
                 rw [show d9 + 1 - 1 = d9 by omega]
                 refine ih d9 (nx B N f) (hs T 4 (T 5 d9).toNat (ns : Int)) _ (by omega) ⟨by omega, ?_, ?_, ?_, fun e he => ?_, ?_, eX, fun x a b => ?_, fun q a b => ?_⟩
                 · exact (RTx.fld (q := 72) (v := ((d9 + 1 : Nat) : Int) - 1) k3 (by omega) (by decide)).s9 (by decide) (by decide)
                 · rw [hs_o (by decide), hs_s]; omega
                 · refine OV.cl (c := 424) ?_ o2.2.1
                   intro i hi k4 ho
                   rw [hs_O (by decide), g3.1 424 (by decide)]; exact ov i hi k4 ho
                 · have o3 := op e (by omega)
                   rw [hs_O (show (5 : Nat) ≠ 4 by decide), hs_o (by decide), hs_o (by decide), g3.1 426 (by decide)]; exact o3
                 · rw [hs_o (by decide), hs_k (by decide), g3.2 62 (by omega)]; exact en
                 · rw [hs_O b, hs_O a, g3.1 x a]; exact fr x a b
                 · rw [hs_o (by decide), hs_k b, g3.2 q a]; exact fr2 q a b)
          · show jT _ _ 84 _ _ _ _
            have eb := zb0' c4
            refine tl_aload_n rfl rfl ?_
            refine tl_dup rfl rfl ?_
            show jT _ _ 86 _ _ _ _
            refine tl_geti (c := 12) (k9 := 72) rfl rfl rfl ?_
            rw [g3.2 72 (by omega), ed]
            refine tl_iconst rfl ?_
            refine tl_isub rfl ?_
            refine tl_puti (c := 12) (k9 := 72) rfl rfl rfl rfl ?_
            refine tl_aload_n rfl rfl ?_
            refine tl_getr (c := 12) (k9 := 67) (b := 424) rfl rfl rfl rfl ?_
            refine tl_aload_n rfl rfl ?_
            show jT _ _ 99 _ _ _ _
            refine tl_getr (c := 12) (k9 := 70) (b := 426) rfl rfl rfl rfl ?_
            refine tl_aload_n rfl rfl ?_
            refine tl_geti (c := 12) (k9 := 72) rfl rfl rfl ?_
            rw [hs_s]
            refine tl_iald (n := 5) rfl rfl rfl (by omega) (by omega) ?_
            rw [show ((d : Int) - 1).toNat = d - 1 by omega, hs_o (by decide), g3.1 426 (by decide), (op (d - 1) (by omega)).1]
            have o1 := (op (d - 1) (by omega)).2
            refine tl_aload_n rfl rfl ?_
            refine tl_geti (c := 12) (k9 := 62) rfl rfl rfl ?_
            rw [hs_k (by decide), g3.2 62 (by omega), en]
            refine tl_iast (n := 24) rfl rfl rfl (by omega) (by omega) ?_
            show jT _ _ 112 _ _ _ _
            refine tl_goto (tgt := 44) rfl rfl ?_
            show jT _ _ 44 _ _ _ _
            -- leaf 3 at 44
            first
              | (have n41 : sg B N f 41 = false := Bool.eq_false_iff.mpr (fun q => by rw [q, mv9_t] at eb; exact absurd (show false = true from eb) (by decide))
                 rw [n41, mv9_f] at k3
                 rw [cb9_f (Or.inr n41)] at eX
                 subst eX
                 exact hb h3 ⟨k3, e59, by show d ≠ 0; omega, fun x a b => by rw [g3.1 x a]; exact fr x a b, fun q a b => by rw [g3.2 q a]; exact fr2 q a b⟩)
              | (have y41 : sg B N f 41 = true := by cases z : sg B N f 41 with | true => rfl | false => rw [z, mv9_f] at eb; exact absurd (show true = false from eb) (by decide)
                 rw [y41, mv9_t] at k3
                 obtain ⟨d9, hd9e⟩ : ∃ d9, d = d9 + 1 := ⟨d - 1, by omega⟩
                 subst hd9e
                 rw [cb9_t y41] at eX
                 have o2 := op d9 (by omega)
                 rw [show d9 + 1 - 1 = d9 by omega]
                 refine ih d9 (nx B N f) (hs T 4 (T 5 d9).toNat (ns : Int)) _ (by omega) ⟨by omega, ?_, ?_, ?_, fun e he => ?_, ?_, eX, fun x a b => ?_, fun q a b => ?_⟩
                 · exact (RTx.fld (q := 72) (v := ((d9 + 1 : Nat) : Int) - 1) k3 (by omega) (by decide)).s9 (by decide) (by decide)
                 · rw [hs_o (by decide), hs_s]; omega
                 · refine OV.cl (c := 424) ?_ o2.2.1
                   intro i hi k4 ho
                   rw [hs_O (by decide), g3.1 424 (by decide)]; exact ov i hi k4 ho
                 · have o3 := op e (by omega)
                   rw [hs_O (show (5 : Nat) ≠ 4 by decide), hs_o (by decide), hs_o (by decide), g3.1 426 (by decide)]; exact o3
                 · rw [hs_o (by decide), hs_k (by decide), g3.2 62 (by omega)]; exact en
                 · rw [hs_O b, hs_O a, g3.1 x a]; exact fr x a b
                 · rw [hs_o (by decide), hs_k b, g3.2 q a]; exact fr2 q a b)
set_option maxRecDepth 20000 in
set_option maxHeartbeats 1000000 in
theorem r_rr_lp (l : Launch) (h : jH) (B : Nat → Int) (N : Nat) (X : pS) (P : Option Value → jH → Prop) (hG : ∀ (mem : jH) (f ns d : Nat) (T : jH) (SD : List Int), X = ((false, false), (f, ns, d), T, SD) → RRg B N mem f ns d T SD → FLR h mem → P none mem) (hB : ∀ (mem : jH) (f : Nat), X.1.1 = true → X.2.1.1 = f → RTx mem B N true f → FLR h mem → P none mem) : ∀ (m : Nat) (i : Nat) (f : Nat) (d : Nat) (T : jH) (SD : List Int) (mem : jH), 25 - i < m → (RRg B N mem f i d T SD ∧ pit B N (25 - i) ((false, true), (f, i, d), T, SD) = X ∧ FLR h mem) → jT l 328 7 [some (.ref 388), some (.int (jI (1)))] [] mem P := by
  intro m
  induction m with
  | zero => intro i f d T SD mem hk hi; have := hi.1.2.2.2.2.1; omega
  | succ m ih =>
    intro i f d T SD mem hk hi
    obtain ⟨⟨rt, en, ed, d4, i24, tbl, op, ov, rl, bd⟩, eX, fr⟩ := hi
    have kr := kd9_r (B := B) (N := N) f
    refine tl_aload_n rfl rfl ?_
    refine tl_geti (c := 12) (k9 := 60) rfl rfl rfl ?_
    rw [rt.2.1, show zb false = 0 from rfl]
    refine tl_if_ne (tgt := 145) rfl rfl ⟨by omega, by omega⟩ (fun c1 => ?_) (fun c1 => ?_)
    · skip
      exfalso; omega
    · show jT _ _ 14 _ _ _ _
      refine tl_iload_n rfl rfl ?_
      refine tl_if_eq (tgt := 145) rfl rfl ⟨by omega, by omega⟩ (fun c2 => ?_) (fun c2 => ?_)
      · skip
        exfalso; omega
      · show jT _ _ 18 _ _ _ _
        refine tl_aload_n rfl rfl ?_
        show jT _ _ 19 _ _ _ _
        refine tl_v0v (c9 := 12) (r_readStep l mem B N f d i rt i24 d4 en ed SD rl bd) rfl rfl rfl rfl rfl (Nat.le_of_ble_eq_true rfl) (fun h1 p1 => ?_)
        obtain ⟨t1, f1, g1⟩ := p1
        have fl1 : FLR h h1 := ⟨fun x x1 x2 => by rw [f1.1 x x1 x2]; exact fr.1 x x1 x2, fun q q1 q2 q3 q4 => by rw [f1.2.2.2 q q1 q2 q3 q4]; exact fr.2 q q1 q2 q3 q4⟩
        have b1 := zb_b (stq B N f d i).1
        refine tl_aload_n rfl rfl ?_
        refine tl_geti (c := 12) (k9 := 60) rfl rfl rfl ?_
        rw [t1.2.1]
        refine tl_if_ne (tgt := 7) rfl rfl ⟨by omega, by omega⟩ (fun c3 => ?_) (fun c3 => ?_)
        · skip
          have eb := zb1 c3
          show jT _ _ 7 _ _ _ _
          -- leaf 0 at 7
          have sqb : stq B N f d i = (true, (stq B N f d i).2) := Prod.ext eb rfl
          rw [show 25 - i = (25 - (i + 1)) + 1 by omega, pit, pz_b sqb] at eX
          rw [pit_s (Or.inl rfl)] at eX
          rw [eb] at t1
          exact r_x7 l h1 B N _ true t1 1 (Or.inr rfl) (Or.inl rfl) P (hB h1 _ (by rw [← eX]) (by rw [← eX]) t1 fl1)
        · show jT _ _ 29 _ _ _ _
          have eb := zb0' c3
          have gg := g1 eb
          have c24 : i < 24 := by
            by_cases c : i < 24
            · exact c
            · exfalso; rw [stq, if_neg c] at eb; exact absurd (show true = false from eb) (by decide)
          have sq : stq B N f d i = stp B N f d := by rw [stq, if_pos c24]
          have sqg : stq B N f d i = (false, (stq B N f d i).2) := Prod.ext eb rfl
          have gd : (stp B N f d).1 = false := by rw [← sq]; exact eb
          have sm := stp_m (d := d) rt.N9 gd
          rw [← sq] at sm
          have tbr := rr_rel (B := B) (N := N) (f := f) (SD := SD) tbl f1 gg.1
          rw [eb] at t1
          refine tl_aload_n rfl rfl ?_
          refine tl_getr (c := 12) (k9 := 63) (b := 420) rfl rfl rfl rfl ?_
          refine tl_aload_n rfl rfl ?_
          show jT _ _ 34 _ _ _ _
          refine tl_geti (c := 12) (k9 := 62) rfl rfl rfl ?_
          rw [gg.1.2.2.2.2.2.2.2.2]
          refine tl_iconst rfl ?_
          refine tl_isub rfl ?_
          refine tl_iald (n := 24) rfl rfl rfl (by omega) (by omega) ?_
          rw [show (((i + 1 : Nat) : Int) - 1).toNat = i by omega, gg.1.1]
          refine tl_iconst rfl ?_
          refine tl_icmp_eq (tgt := 7) rfl rfl ⟨by omega, by omega⟩ ⟨by omega, by omega⟩ (fun c4 => ?_) (fun c4 => ?_)
          · skip
            show jT _ _ 7 _ _ _ _
            -- leaf 1 at 7
            have k4y : kd9 B N f = 4 := by omega
            rw [show 25 - i = (25 - (i + 1)) + 1 by omega, pit, pz_4 sqg k4y] at eX
            have gt := gg.1.2.2.2.2.2.2.1 k4y
            have d3 : d < 4 := by
              have sp := stp_4 (B := B) (N := N) (f := f) (d := d) k4y
              rw [sp] at gd
              have z := (mvp_g gd).2.1
              by_cases c : d < 4
              · exact c
              · exfalso; (try dsimp only at z); rw [decide_eq_false c, Bool.and_false] at z; exact absurd z (by decide)
            have vs0 : vS9 B N f = [] := by rw [vS9, if_neg (by rw [k4y]; decide)]
            have rl1 := gg.1.2.2.2.2.2.1
            rw [vs0, List.append_nil] at rl1
            refine ih (i + 1) (stq B N f d i).2 (d + 1) (hs (tb9 B N T i f SD) 5 d (i : Int)) SD h1 (by omega) ⟨⟨t1, gg.1.2.2.2.2.2.2.2.2, gt.2, by omega, by omega, fun q hq => ?_, fun e he => ?_, fun q hq k4 ho => ?_, rl1, by omega⟩, eX, fl1⟩
            · rw [hs_o (by decide), hs_o (by decide), hs_o (by decide), hs_o (by decide)]; exact tbr q hq
            · by_cases ee : e = d
              · subst ee; rw [hs_s, gt.1]; omega
              · rw [hs_k ee, f1.2.2.1 e ee, tb9_o (Or.inr (by decide))]; exact op e (by omega)
            · rw [hs_o (by decide)] at k4
              have qi : q ≠ i := fun z => ho d (by omega) (by rw [hs_s, z])
              rw [tb9_o (Or.inl qi)] at k4
              rw [f1.2.1 424 (by decide) (by decide) q qi, hs_o (by decide), tb9_o (Or.inr (by decide))]
              exact ov q (by omega) k4 (fun e he z => ho e (by omega) (by rw [hs_k (by omega), tb9_o (Or.inr (by decide))]; exact z))
          · show jT _ _ 44 _ _ _ _
            show jT _ _ 44 _ _ _ _
            -- leaf 2 at 44
            have k4n : kd9 B N f ≠ 4 := by omega
            rw [show 25 - i = (25 - (i + 1)) + 1 by omega, pit, pz_g sqg k4n] at eX
            have cbb := cb9_b (B := B) (ns := i + 1) d (stq B N f d i).2 (tb9 B N T i f SD) t1.N9
            refine r_cb_lp l h1 B N (i + 1) (i + 1) (cb9 B N (i + 1) d (stq B N f d i).2 (tb9 B N T i f SD)) P (fun m3 q3 => ?_) (fun m3 q3 => ?_) _ d (stq B N f d i).2 (tb9 B N T i f SD) h1 (Nat.lt_succ_self _) ⟨d4, t1, gg.1.2.2.2.2.2.2.2.1 k4n, (fun q hq k4 ho => by have qi : q ≠ i := (fun z => by subst z; rw [tb9_n.1] at k4; exact k4n k4); rw [tb9_o (Or.inl qi)] at k4; rw [f1.2.1 424 (by decide) (by decide) q qi, tb9_o (Or.inr (by decide))]; exact ov q (by omega) k4 (fun e he z => ho e he (by rw [tb9_o (Or.inr (by decide))]; exact z))), (fun e he => by rw [f1.2.2.1 e (by omega), tb9_o (Or.inr (by decide))]; exact op e he), gg.1.2.2.2.2.2.2.2.2, rfl, fun _ _ _ => rfl, fun _ _ _ => rfl⟩
            · obtain ⟨t3, dz, ed3, ov3, fr3, fr3b⟩ := q3
              refine r_rr115 l m3 B N (cb9 B N (i + 1) d (stq B N f d i).2 (tb9 B N T i f SD)).1 false t3 P (fun m4 t4 f4 => ?_)
              have fl4 : FLR h m4 := ⟨fun x x1 x2 => by rw [f4.1 x x1, fr3 x x1 (by omega)]; exact fl1.1 x x1 x2, fun q q1 q2 q3 q4 => by rw [f4.2 q q1, fr3b q q1 q4]; exact fl1.2 q q1 q2 q3 q4⟩
              have cr : ∀ g9, RTx m4 B N false g9 → (cb9 B N (i + 1) d (stq B N f d i).2 (tb9 B N T i f SD)).1 ≤ g9 → RRg B N m4 g9 (i + 1) (cb9 B N (i + 1) d (stq B N f d i).2 (tb9 B N T i f SD)).2.1 (cb9 B N (i + 1) d (stq B N f d i).2 (tb9 B N T i f SD)).2.2 (SD ++ vS9 B N f) := by
                intro g9 tk9 hg9
                refine ⟨tk9, by rw [f4.2 62 (by omega), fr3b 62 (by omega) (by decide)]; exact gg.1.2.2.2.2.2.2.2.2, by rw [f4.2 72 (by omega)]; exact ed3, by omega, by omega, fun q hq => ?_, fun e he => ?_, fun q hq k4 ho => by rw [f4.1 424 (by decide)]; exact ov3 q hq k4 ho, gg.1.2.2.2.2.2.1.of (by rw [f4.2 69 (by omega), fr3b 69 (by omega) (by decide)]) (by rw [f4.1 425 (by decide), fr3 425 (by decide) (by decide)]), by rw [List.length_append]; omega⟩
                · rw [cbb.2.2.2 0 (by decide), cbb.2.2.2 1 (by decide), cbb.2.2.2 2 (by decide), cbb.2.2.2 3 (by decide), f4.1 420 (by decide), f4.1 421 (by decide), f4.1 422 (by decide), f4.1 423 (by decide), fr3 420 (by decide) (by decide), fr3 421 (by decide) (by decide), fr3 422 (by decide) (by decide), fr3 423 (by decide) (by decide)]; exact tbr q hq
                · rw [cbb.2.2.2 5 (by decide), f4.1 426 (by decide), fr3 426 (by decide) (by decide), f1.2.2.1 e (by omega), tb9_o (Or.inr (by decide))]; exact op e (by omega)
              cases es : sg B N (cb9 B N (i + 1) d (stq B N f d i).2 (tb9 B N T i f SD)).1 59 with
              | true =>
                rw [fi9, if_pos es] at eX
                rw [es, Bool.true_or, mv9_t] at t4
                exact ih (i + 1) (nx B N (cb9 B N (i + 1) d (stq B N f d i).2 (tb9 B N T i f SD)).1) (cb9 B N (i + 1) d (stq B N f d i).2 (tb9 B N T i f SD)).2.1 (cb9 B N (i + 1) d (stq B N f d i).2 (tb9 B N T i f SD)).2.2 (SD ++ vS9 B N f) m4 (by omega) ⟨cr _ t4 (nx_b cbb.1).1, eX, fl4⟩
              | false =>
                have d0 : (cb9 B N (i + 1) d (stq B N f d i).2 (tb9 B N T i f SD)).2.1 = 0 := by rcases dz with q | q; exact q; (rw [es] at q; exact absurd q (by decide))
                by_cases c : N ≤ (cb9 B N (i + 1) d (stq B N f d i).2 (tb9 B N T i f SD)).1
                · rw [fi9, if_neg (by rw [es]; decide), if_pos ⟨c, d0⟩, pit_s (Or.inr rfl)] at eX
                  rw [es, decide_eq_true c, Bool.or_true, mv9_t] at t4
                  rw [nx_N cbb.1 c] at t4
                  exact r_x7 l m4 B N _ false t4 0 (Or.inl rfl) (Or.inr rfl) P (hG m4 _ _ _ _ _ eX.symm (cr _ t4 (Nat.le_refl _)) fl4)
                · rw [fi9, if_neg (by rw [es]; decide), if_neg (fun q => c q.1), pit_s (Or.inl rfl)] at eX
                  rw [es, decide_eq_false c, Bool.or_false, mv9_f] at t4
                  exact r_x7 l m4 B N _ true t4 0 (Or.inl rfl) (Or.inl rfl) P (hB m4 _ (by rw [← eX]) (by rw [← eX]) t4 fl4)
            · skip
              obtain ⟨t3, n59, dn, fr3, fr3b⟩ := q3
              refine tl_aload_n rfl rfl ?_
              refine tl_geti (c := 12) (k9 := 60) rfl rfl rfl ?_
              rw [t3.2.1, show zb true = 1 from rfl]
              refine tl_if_ne (tgt := 115) rfl rfl ⟨by omega, by omega⟩ (fun c1 => ?_) (fun c1 => ?_)
              · skip
                show jT _ _ 115 _ _ _ _
                -- leaf 0 at 115
                refine r_rr115 l m3 B N (cb9 B N (i + 1) d (stq B N f d i).2 (tb9 B N T i f SD)).1 true t3 P (fun m4 t4 f4 => ?_)
                rw [mv9_b] at t4
                have fl4 : FLR h m4 := ⟨fun x x1 x2 => by rw [f4.1 x x1, fr3 x x1 (by omega)]; exact fl1.1 x x1 x2, fun q q1 q2 q3 q4 => by rw [f4.2 q q1, fr3b q q1 q4]; exact fl1.2 q q1 q2 q3 q4⟩
                have b5 := zb_b (sg B N (cb9 B N (i + 1) d (stq B N f d i).2 (tb9 B N T i f SD)).1 59)
                rw [fi9, if_neg (by rw [n59]; decide), if_neg (fun q => dn q.2), pit_s (Or.inl rfl)] at eX
                exact r_x7 l m4 B N _ true t4 _ (by omega) (Or.inl rfl) P (hB m4 _ (by rw [← eX]) (by rw [← eX]) t4 fl4)
              · show jT _ _ 51 _ _ _ _
                exfalso; omega
set_option maxRecDepth 20000 in
set_option maxHeartbeats 1000000 in
theorem r_readRecipe (l : Launch) (h : jH) (B : Nat → Int) (N : Nat) (rt : RTx h B N false (skw B N 0)) (e62 : h 388 62 = 0) (e69 : h 388 69 = 0) : cV l 328 [.ref 388] h (fun h' => ((pX B N).1.1 = true → RTx h' B N true (pX B N).2.1.1) ∧ ((pX B N).1.1 = false → ∃ f ns d T SD, pX B N = ((false, false), (f, ns, d), T, SD) ∧ RRg B N h' f ns d T SD) ∧ FLR h h') := by
  refine cV.of rfl rfl ?_
  refine tl_aload_n rfl rfl ?_
  refine tl_iconst rfl ?_
  refine tl_puti (c := 12) (k9 := 72) rfl rfl rfl rfl ?_
  refine tl_iconst rfl ?_
  refine tl_istore_n rfl (Nat.le_of_ble_eq_true rfl) rfl ?_
  show jT _ _ 7 _ _ _ _
  -- leaf 0 at 7
  refine r_rr_lp l h B N (pX B N) _ (fun mem f ns d T SD eX cr fl => ?_) (fun mem f xb xf t fl => ?_) _ 0 (skw B N 0) 0 (fun _ _ => 0) [] _ (Nat.lt_succ_self _) ⟨⟨rt.fld (by omega) (by decide), by rw [hs_k (by decide)]; exact e62, hs_s, by decide, by decide, fun i hi => absurd hi (Nat.not_lt_zero _), fun e he => absurd he (Nat.not_lt_zero _), fun i hi => absurd hi (Nat.not_lt_zero _), ⟨by rw [hs_k (by decide)]; exact e69, fun i hi => absurd hi (Nat.not_lt_zero _)⟩, Nat.zero_le _⟩, rfl, fun x x1 x2 => hs_O x1, fun q q1 q2 q3 q4 => hs_k q4⟩
  · exact ⟨rfl, fun q => by rw [eX] at q; exact absurd (show false = true from q) (by decide), fun _ => ⟨f, ns, d, T, SD, eX, cr⟩, fl⟩
  · exact ⟨rfl, fun _ => by rw [xf]; exact t, fun q => by rw [xb] at q; exact absurd q (by decide), fl⟩
