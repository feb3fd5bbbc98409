/-! begin, of the reference -/
theorem bgR_cc {c : Nat} {L : List Int} {g : jH} {R F : Nat → Int} (h : L.length ≤ c) : bgR c L g R F = bgR L.length L g R F := by
  funext i
  unfold bgR
  by_cases a : i = 1168
  · rw [if_pos a, if_pos a]
  · rw [if_neg a, if_neg a]
    by_cases b : i = 1169
    · rw [if_pos b, if_pos b]
    · rw [if_neg b, if_neg b]
      by_cases d : 1170 ≤ i ∧ i < 1170 + 3 * L.length
      · rw [if_pos d, if_pos d]
        unfold bgF bgA
        have e : (i - 1170) / 3 < L.length := by omega
        rw [if_pos e, if_pos e, if_pos (show (i - 1170) / 3 < c by omega), if_pos (show (i - 1170) / 3 < c by omega)]
      · rw [if_neg d, if_neg d]
theorem bgR_add {h : jH} {c : Nat} {L : List Int} {g : jH} {R F : Nat → Int} {x f v : Int} (e390 : h 390 = bgR c L g R F) (hf : f = bgF c (L ++ [x]) g L.length) (hv : v = bgA c (L ++ [x]) g R L.length) : hs (hs (hs (hs h 390 (1170 + 3 * L.length) x) 390 (1171 + 3 * L.length) f) 390 (1172 + 3 * L.length) v) 390 1168 ((L.length : Int) + 1) 390 = bgR c (L ++ [x]) g R F := by
  have ll : (L ++ [x]).length = L.length + 1 := by rw [List.length_append]; rfl
  funext i
  by_cases a : i = 1168
  · subst a; rw [hs_s, bgR, if_pos rfl, ll]; omega
  · rw [hs_k a]
    by_cases b : i = 1172 + 3 * L.length
    · subst b; rw [hs_s, (bgR_w (w := L.length) (by omega)).2.2]; exact hv
    · rw [hs_k b]
      by_cases d : i = 1171 + 3 * L.length
      · subst d; rw [hs_s, (bgR_w (w := L.length) (by omega)).2.1]; exact hf
      · rw [hs_k d]
        by_cases e : i = 1170 + 3 * L.length
        · subst e; rw [hs_s, (bgR_w (w := L.length) (by omega)).1, gd_s]
        · rw [hs_k e, e390]
          unfold bgR
          rw [if_neg a, if_neg a]
          by_cases k : i = 1169
          · rw [if_pos k, if_pos k]
          · rw [if_neg k, if_neg k]
            by_cases q : 1170 ≤ i ∧ i < 1170 + 3 * L.length
            · have z := bg_l (c := c) (L := L) (x := x) (g := g) (R := R) (w := (i - 1170) / 3) (by omega)
              rw [if_pos q, if_pos (show 1170 ≤ i ∧ i < 1170 + 3 * (L ++ [x]).length by omega), gd_l (by omega), z.1, z.2.2]
            · rw [if_neg q, if_neg (show ¬ (1170 ≤ i ∧ i < 1170 + 3 * (L ++ [x]).length) by omega)]
theorem grw_s {h : jH} {v : Int} {G : Nat → Int} (e : h 390 = grw v G) (g0 : 0 ≤ G 5 ∧ G 5 ≤ v) : hs (hs h 390 5 (v + 1)) 390 (5 + (v + 1)).toNat 0 390 = grw (v + 1) G := by
  funext i
  unfold grw
  by_cases a : i = (5 + (v + 1)).toNat
  · subst a; rw [hs_s, if_neg (by omega), if_pos (by omega)]
  · rw [hs_k a]
    by_cases b : i = 5
    · subst b; rw [hs_s, if_pos rfl]
    · rw [hs_k b, e, grw, if_neg b, if_neg b]
      by_cases c : 6 ≤ i ∧ (i : Int) < 6 + v ∧ G 5 ≤ (i : Int) - 6
      · rw [if_pos c, if_pos (show 6 ≤ i ∧ (i : Int) < 6 + (v + 1) ∧ G 5 ≤ (i : Int) - 6 by omega)]
      · rw [if_neg c, if_neg (show ¬ (6 ≤ i ∧ (i : Int) < 6 + (v + 1) ∧ G 5 ≤ (i : Int) - 6) by omega)]
theorem grw_0 {G : Nat → Int} : grw (G 5) G = G := by
  funext i
  unfold grw
  by_cases a : i = 5
  · subst a; rw [if_pos rfl]
  · rw [if_neg a, if_neg (by omega)]
theorem RF.h9 {Y X Z : jH} {F : Nat → Int} (r : RF Y X) (e : ∀ x, x ≠ 388 → x ≠ 390 → (x < 394 ∨ 434 ≤ x) → Z x = X x) (e8 : ∀ q, q ≠ 53 → Z 388 q = X 388 q) (e9 : Z 390 = F) : RF (hw Y 390 F) Z := by
  refine ⟨fun x hx => ?_, fun q hq => ?_⟩
  · by_cases c : x = 390
    · subst c; rw [e9, hw_s]
    · rw [e x (by omega) c (by omega), hw_o c]; exact r.1 x hx
  · rw [e8 q (by omega), hw_o (by decide)]; exact r.2 q hq
set_option maxRecDepth 20000 in
set_option maxHeartbeats 1000000 in
theorem r_toWrite (l : Launch) (h g : jH) (R F : Nat → Int) (c : Nat) (L : List Int) (e390 : h 390 = bgR c L g R F) (l64 : L.length < 64) (x f v : Int) (hf : f = bgF c (L ++ [x]) g L.length) (hv : v = bgA c (L ++ [x]) g R L.length) : cV l 306 [.ref 388, .int (jI x), .int (jI f), .int (jI v)] h (fun h' => h' 390 = bgR c (L ++ [x]) g R F ∧ ∀ y, y ≠ 390 → h' y = h y) := by
  have e68 : h 390 1168 = (L.length : Int) := by rw [e390, bgR, if_pos rfl]
  refine cV.of rfl rfl ?_
  refine tl_sipush rfl rfl ?_
  refine tl_iconst rfl ?_
  refine tl_aload_n rfl rfl ?_
  refine tl_getr (c := 12) (k9 := 3) (b := 390) rfl rfl rfl rfl ?_
  refine tl_sipush rfl rfl ?_
  refine tl_iald (n := 1362) rfl rfl rfl (by omega) (by omega) ?_
  rw [show Int.toNat 1168 = 1168 from rfl]
  rw [e68]
  show jT _ _ 12 _ _ _ _
  refine tl_imul rfl ?_
  refine tl_iadd rfl ?_
  refine tl_istore rfl (Nat.le_of_ble_eq_true rfl) rfl ?_
  refine tl_aload_n rfl rfl ?_
  refine tl_getr (c := 12) (k9 := 3) (b := 390) rfl rfl rfl rfl ?_
  refine tl_iload rfl rfl ?_
  refine tl_iload_n rfl rfl ?_
  show jT _ _ 23 _ _ _ _
  refine tl_iast (n := 1362) rfl rfl rfl (by omega) (by omega) ?_
  rw [show ((1170 : Int) + 3 * (L.length : Int)).toNat = 1170 + 3 * L.length by omega]
  refine tl_aload_n rfl rfl ?_
  refine tl_getr (c := 12) (k9 := 3) (b := 390) rfl rfl rfl rfl ?_
  refine tl_iload rfl rfl ?_
  refine tl_iconst rfl ?_
  refine tl_iadd rfl ?_
  refine tl_iload_n rfl rfl ?_
  show jT _ _ 33 _ _ _ _
  refine tl_iast (n := 1362) rfl rfl rfl (by omega) (by omega) ?_
  rw [show ((1170 : Int) + 3 * (L.length : Int) + 1).toNat = 1171 + 3 * L.length by omega]
  refine tl_aload_n rfl rfl ?_
  refine tl_getr (c := 12) (k9 := 3) (b := 390) rfl rfl rfl rfl ?_
  refine tl_iload rfl rfl ?_
  refine tl_iconst rfl ?_
  refine tl_iadd rfl ?_
  refine tl_iload_n rfl rfl ?_
  show jT _ _ 43 _ _ _ _
  refine tl_iast (n := 1362) rfl rfl rfl (by omega) (by omega) ?_
  rw [show ((1170 : Int) + 3 * (L.length : Int) + 2).toNat = 1172 + 3 * L.length by omega]
  refine tl_aload_n rfl rfl ?_
  refine tl_getr (c := 12) (k9 := 3) (b := 390) rfl rfl rfl rfl ?_
  refine tl_sipush rfl rfl ?_
  refine tl_dup2 rfl rfl rfl ?_
  refine tl_iald (n := 1362) rfl rfl rfl (by omega) (by omega) ?_
  rw [show Int.toNat 1168 = 1168 from rfl]
  rw [hs_k (by omega), hs_k (by omega), hs_k (by omega), e68]
  refine tl_iconst rfl ?_
  show jT _ _ 54 _ _ _ _
  refine tl_iadd rfl ?_
  refine tl_iast (n := 1362) rfl rfl rfl (by omega) (by omega) ?_
  rw [show Int.toNat 1168 = 1168 from rfl]
  refine tl_ret rfl ?_
  -- leaf 0 at 56
  exact ⟨rfl, bgR_add e390 hf hv, fun y hy => by rw [hs_O hy, hs_O hy, hs_O hy, hs_O hy]⟩
set_option maxRecDepth 20000 in
set_option maxHeartbeats 1000000 in
theorem r_id_lp (l : Launch) (h : jH) (S : jH) (n : Nat) (sb : SB9 S n) (kp : PTR h S n) (hn : h 388 38 = (n : Int)) (Q : jH) (r9 : Int) (oi : OI S n r9 Q) (k9 : ORR h n Q) (i : Nat) (i64 : i < 64) (P : Option Value → jH → Prop) (hP : P (some (.int (jI (zb (drp S Q i n))))) h) : ∀ (m : Nat) (k : Nat) (v : Int), n - k < m → (k ≤ n ∧ v = zb (drp S Q i k)) → jT l 307 4 [some (.ref 388), some (.int (jI ((i : Int)))), some (.int (jI (v))), some (.int (jI ((k : Int))))] [] h P := by
  have n99 := sb.1
  intro m
  induction m with
  | zero => intro k v hk; omega
  | succ m ih =>
    intro k v hk hi
    obtain ⟨i0, i1⟩ := hi
    have kf : n ≤ k ∨ (k < n ∧ h 418 k = Q 0 k ∧ (Q 0 k = 0 ∨ Q 0 k = 1 ∨ Q 0 k = 2) ∧ h 411 k = S 4 k ∧ h 409 k = S 2 k ∧ (0 ≤ S 4 k ∧ S 4 k ≤ 64) ∧ (0 ≤ S 2 k ∧ S 2 k ≤ 64)) := by
      by_cases c : k < n
      · exact Or.inr ⟨c, k9.1 k c, (oi.1 k c).1, (kp k c).2.2.2, (kp k c).2.1, (sb.2 k c).2.2, (sb.2 k c).2.1⟩
      · exact Or.inl (by omega)
    have vb : v = 0 ∧ drp S Q i k = false ∨ v = 1 ∧ drp S Q i k = true := by
      rw [i1]
      cases drp S Q i k
      · exact Or.inl ⟨rfl, rfl⟩
      · exact Or.inr ⟨rfl, rfl⟩
    have ds : drp S Q i (k + 1) = (drp S Q i k || decide (Q 0 k = 2 ∧ S 4 k ≤ (i : Int) ∧ (i : Int) ≤ S 4 k + S 2 k - 1)) := rfl
    refine tl_iload_n rfl rfl ?_
    refine tl_aload_n rfl rfl ?_
    refine tl_geti (c := 12) (k9 := 38) rfl rfl rfl ?_
    rw [hn]
    refine tl_icmp_ge (tgt := 69) rfl rfl ⟨by omega, by omega⟩ ⟨by omega, by omega⟩ (fun c1 => ?_) (fun c1 => ?_)
    · skip
      refine tl_iload_n rfl rfl ?_
      refine tl_iret rfl ?_
      -- leaf 0 at 70
      have e : k = n := by omega
      subst e
      rw [i1]
      exact hP
    · show jT _ _ 12 _ _ _ _
      show jT _ _ 12 _ _ _ _
      refine tl_iload_n rfl rfl ?_
      refine tl_if_ne (tgt := 57) rfl rfl ⟨by omega, by omega⟩ (fun c2 => ?_) (fun c2 => ?_)
      · skip
        refine tl_iconst rfl ?_
        refine tl_goto (tgt := 62) rfl rfl ?_
        refine tl_istore_n rfl (Nat.le_of_ble_eq_true rfl) rfl ?_
        refine tl_iinc rfl rfl rfl ?_
        refine tl_goto (tgt := 4) rfl rfl ?_
        show jT _ _ 4 _ _ _ _
        -- leaf 1 at 4
        refine ih (k + 1) 1 (by omega) ⟨by omega, ?_⟩
        have d0 : drp S Q i k = true := by rcases vb with a | a; (exfalso; omega); exact a.2
        rw [ds, d0]; rfl
      · show jT _ _ 16 _ _ _ _
        show jT _ _ 16 _ _ _ _
        refine tl_aload_n rfl rfl ?_
        refine tl_getr (c := 12) (k9 := 54) (b := 418) rfl rfl rfl rfl ?_
        refine tl_iload_n rfl rfl ?_
        refine tl_iald (n := 100) rfl rfl rfl (by omega) (by omega) ?_
        rw [Int.toNat_natCast, show h 418 k = Q 0 k by omega]
        refine tl_iconst rfl ?_
        refine tl_icmp_ne (tgt := 61) rfl rfl ⟨by omega, by omega⟩ ⟨by omega, by omega⟩ (fun c3 => ?_) (fun c3 => ?_)
        · skip
          refine tl_iconst rfl ?_
          show jT _ _ 62 _ _ _ _
          refine tl_istore_n rfl (Nat.le_of_ble_eq_true rfl) rfl ?_
          refine tl_iinc rfl rfl rfl ?_
          refine tl_goto (tgt := 4) rfl rfl ?_
          show jT _ _ 4 _ _ _ _
          -- leaf 2 at 4
          refine ih (k + 1) 0 (by omega) ⟨by omega, ?_⟩
          have d0 : drp S Q i k = false := by rcases vb with a | a; exact a.2; (exfalso; omega)
          rw [ds, d0, decide_eq_false (by omega)]; rfl
        · show jT _ _ 26 _ _ _ _
          refine tl_iload_n rfl rfl ?_
          refine tl_i2l rfl ⟨by omega, by omega⟩ ?_
          refine tl_aload_n rfl rfl ?_
          refine tl_getr (c := 12) (k9 := 42) (b := 411) rfl rfl rfl rfl ?_
          show jT _ _ 32 _ _ _ _
          refine tl_iload_n rfl rfl ?_
          refine tl_iald (n := 100) rfl rfl rfl (by omega) (by omega) ?_
          rw [Int.toNat_natCast, show h 411 k = S 4 k by omega]
          refine tl_i2l rfl ⟨by omega, by omega⟩ ?_
          refine tl_aload_n rfl rfl ?_
          refine tl_getr (c := 12) (k9 := 42) (b := 411) rfl rfl rfl rfl ?_
          refine tl_iload_n rfl rfl ?_
          refine tl_iald (n := 100) rfl rfl rfl (by omega) (by omega) ?_
          rw [Int.toNat_natCast, show h 411 k = S 4 k by omega]
          show jT _ _ 41 _ _ _ _
          refine tl_aload_n rfl rfl ?_
          refine tl_getr (c := 12) (k9 := 40) (b := 409) rfl rfl rfl rfl ?_
          refine tl_iload_n rfl rfl ?_
          refine tl_iald (n := 100) rfl rfl rfl (by omega) (by omega) ?_
          rw [Int.toNat_natCast, show h 409 k = S 2 k by omega]
          refine tl_iadd rfl ?_
          refine tl_i2l rfl ⟨by omega, by omega⟩ ?_
          refine tl_lconst (z := 1) rfl rfl ?_
          show jT _ _ 50 _ _ _ _
          refine tl_lsub rfl ?_
          refine tl_s3i (c_in l _ _ _ _ ⟨by omega, by omega⟩ ⟨by omega, by omega⟩ ⟨by omega, by omega⟩) rfl rfl rfl (Nat.le_of_ble_eq_true rfl) (fun z1 h1 p1 => ?_)
          obtain ⟨q1, p1⟩ := p1
          have q1 := q1.symm
          subst q1
          have b1 : z1 = 0 ∨ z1 = 1 := by rw [p1]; split <;> omega
          refine tl_if_eq (tgt := 61) rfl rfl ⟨by omega, by omega⟩ (fun c4 => ?_) (fun c4 => ?_)
          · skip
            have ci : ¬ (S 4 k ≤ (i : Int) ∧ (i : Int) ≤ S 4 k + S 2 k - 1) := fun c => by rw [if_pos c] at p1; omega
            refine tl_iconst rfl ?_
            refine tl_istore_n rfl (Nat.le_of_ble_eq_true rfl) rfl ?_
            refine tl_iinc rfl rfl rfl ?_
            refine tl_goto (tgt := 4) rfl rfl ?_
            show jT _ _ 4 _ _ _ _
            -- leaf 3 at 4
            refine ih (k + 1) 0 (by omega) ⟨by omega, ?_⟩
            have d0 : drp S Q i k = false := by rcases vb with a | a; exact a.2; (exfalso; omega)
            rw [ds, d0, decide_eq_false (by omega)]; rfl
          · show jT _ _ 57 _ _ _ _
            have ci : S 4 k ≤ (i : Int) ∧ (i : Int) ≤ S 4 k + S 2 k - 1 := by
              by_cases c : S 4 k ≤ (i : Int) ∧ (i : Int) ≤ S 4 k + S 2 k - 1
              · exact c
              · rw [if_neg c] at p1; omega
            show jT _ _ 57 _ _ _ _
            refine tl_iconst rfl ?_
            refine tl_goto (tgt := 62) rfl rfl ?_
            refine tl_istore_n rfl (Nat.le_of_ble_eq_true rfl) rfl ?_
            refine tl_iinc rfl rfl rfl ?_
            refine tl_goto (tgt := 4) rfl rfl ?_
            show jT _ _ 4 _ _ _ _
            -- leaf 4 at 4
            refine ih (k + 1) 1 (by omega) ⟨by omega, ?_⟩
            rw [ds, decide_eq_true (by omega), Bool.or_true]; rfl
set_option maxRecDepth 20000 in
set_option maxHeartbeats 1000000 in
theorem r_isDropped (l : Launch) (h : jH) (S : jH) (n : Nat) (sb : SB9 S n) (kp : PTR h S n) (hn : h 388 38 = (n : Int)) (Q : jH) (r9 : Int) (oi : OI S n r9 Q) (k9 : ORR h n Q) (i : Nat) (i64 : i < 64) : cI l 307 [.ref 388, .int (jI (i : Int))] h (fun z h' => h' = h ∧ z = zb (drp S Q i n)) := by
  have zz9 := zb_b (drp S Q i n)
  refine cI.ofZ rfl rfl ?_
  refine tl_iconst rfl ?_
  refine tl_istore_n rfl (Nat.le_of_ble_eq_true rfl) rfl ?_
  refine tl_iconst rfl ?_
  refine tl_istore_n rfl (Nat.le_of_ble_eq_true rfl) rfl ?_
  show jT _ _ 4 _ _ _ _
  -- leaf 0 at 4
  exact r_id_lp l h S n sb kp hn Q r9 oi k9 i i64 _ ⟨_, rfl, by omega, rfl, rfl⟩ _ 0 0 (Nat.lt_succ_self _) ⟨Nat.zero_le _, rfl⟩
set_option maxRecDepth 20000 in
set_option maxHeartbeats 1000000 in
theorem r_lr_A2 (l : Launch) (h : jH) (S : jH) (n : Nat) (sb : SB9 S n) (g : jH) (R F : Nat → Int) (N : Nat) (hv : OGv g N) (hg : OGR h g N) (kp : PTR h S n) (hn : h 388 38 = (n : Int)) (hN : ∀ q, q < n → S 4 q + S 2 q + S 3 q ≤ (N : Int) ∧ 0 ≤ S 3 q) (p : Nat) (hp : p < n) (jx : Int) (L : List Int) (l64 : (L.length : Int) + S 2 p ≤ 64) (P : Option Value → jH → Prop) (hx : ∀ mem y3 y4, (mem 390 = bgR 1000 (L ++ cpL S p (S 2 p).toNat) g R F ∧ (∀ x, x ≠ 390 → mem x = h x)) → jT l 308 115 [some (.ref 388), some (.int (jI (jx))), some (.int (jI ((p : Int)))), y3, y4] [] mem P) : ∀ (m : Nat) (t : Nat) (mem : jH) (y4 : Option Value), (S 2 p).toNat - t < m → ((t : Int) ≤ S 2 p ∧ mem 390 = bgR 1000 (L ++ cpL S p t) g R F ∧ (∀ x, x ≠ 390 → mem x = h x)) → jT l 308 41 [some (.ref 388), some (.int (jI (jx))), some (.int (jI ((p : Int)))), some (.int (jI ((t : Int)))), y4] [] mem P := by
  have n64 := hv.1
  have n99 := sb.1
  have sp := sb.2 p hp
  have sp1 := sp.1
  have sp2 := sp.2.1
  have sp4 := sp.2.2
  have sN := hN p hp
  have kpp := kp p hp
  intro m
  induction m with
  | zero => intro t mem y4 hk; omega
  | succ m ih =>
    intro t mem y4 hk hi
    obtain ⟨i0, kk, fr⟩ := hi
    have len : (L ++ cpL S p t).length = L.length + t := by rw [List.length_append, cpL_len]
    obtain ⟨sx, es⟩ : ∃ sx, (S 4 p + (if S 4 p ≤ S 1 p then (t : Int) else S 2 p - 1 - (t : Int))) = sx := ⟨_, rfl⟩
    have exs : S 4 p ≤ S 1 p ∧ sx = S 4 p + (t : Int) ∨ ¬ S 4 p ≤ S 1 p ∧ sx = S 4 p + (S 2 p - 1 - (t : Int)) := by
      by_cases c : S 4 p ≤ S 1 p
      · rw [if_pos c] at es; exact Or.inl ⟨c, es.symm⟩
      · rw [if_neg c] at es; exact Or.inr ⟨c, es.symm⟩
    have kf : S 2 p ≤ (t : Int) ∨ ((t : Int) < S 2 p ∧ mem 403 sx.toNat = g 0 sx.toNat ∧ mem 404 sx.toNat = g 1 sx.toNat ∧ 0 ≤ sx ∧ sx < (N : Int)) := by
      by_cases c : (t : Int) < S 2 p
      · have b := hg.2 sx.toNat (by omega)
        exact Or.inr ⟨c, by rw [fr 403 (by decide)]; exact b.1, by rw [fr 404 (by decide)]; exact b.2, by omega, by omega⟩
      · exact Or.inl (by omega)
    have m9 := fr 409 (by decide)
    have m8 := fr 408 (by decide)
    have m11 := fr 411 (by decide)
    refine tl_iload_n rfl rfl ?_
    refine tl_aload_n rfl rfl ?_
    refine tl_getr (c := 12) (k9 := 40) (b := 409) rfl rfl rfl rfl ?_
    refine tl_iload_n rfl rfl ?_
    refine tl_iald (n := 100) rfl rfl rfl (by omega) (by omega) ?_
    rw [Int.toNat_natCast, m9, kpp.2.1]
    refine tl_icmp_ge (tgt := 115) rfl rfl ⟨by omega, by omega⟩ ⟨by omega, by omega⟩ (fun c1 => ?_) (fun c1 => ?_)
    · skip
      show jT _ _ 115 _ _ _ _
      -- leaf 0 at 115
      have e : t = (S 2 p).toNat := by omega
      subst e
      exact hx mem _ _ ⟨kk, fr⟩
    · show jT _ _ 51 _ _ _ _
      show jT _ _ 51 _ _ _ _
      refine tl_aload_n rfl rfl ?_
      refine tl_getr (c := 12) (k9 := 42) (b := 411) rfl rfl rfl rfl ?_
      refine tl_iload_n rfl rfl ?_
      refine tl_iald (n := 100) rfl rfl rfl (by omega) (by omega) ?_
      rw [Int.toNat_natCast, m11, kpp.2.2.2]
      refine tl_aload_n rfl rfl ?_
      refine tl_getr (c := 12) (k9 := 39) (b := 408) rfl rfl rfl rfl ?_
      refine tl_iload_n rfl rfl ?_
      show jT _ _ 62 _ _ _ _
      refine tl_iald (n := 100) rfl rfl rfl (by omega) (by omega) ?_
      rw [Int.toNat_natCast, m8, kpp.1]
      refine tl_aload_n rfl rfl ?_
      refine tl_getr (c := 12) (k9 := 42) (b := 411) rfl rfl rfl rfl ?_
      refine tl_iload_n rfl rfl ?_
      refine tl_iald (n := 100) rfl rfl rfl (by omega) (by omega) ?_
      rw [Int.toNat_natCast, m11, kpp.2.2.2]
      refine tl_icmp_lt (tgt := 76) rfl rfl ⟨by omega, by omega⟩ ⟨by omega, by omega⟩ (fun c2 => ?_) (fun c2 => ?_)
      · skip
        refine tl_aload_n rfl rfl ?_
        show jT _ _ 77 _ _ _ _
        refine tl_getr (c := 12) (k9 := 40) (b := 409) rfl rfl rfl rfl ?_
        refine tl_iload_n rfl rfl ?_
        refine tl_iald (n := 100) rfl rfl rfl (by omega) (by omega) ?_
        rw [Int.toNat_natCast, m9, kpp.2.1]
        refine tl_iconst rfl ?_
        refine tl_isub rfl ?_
        refine tl_iload_n rfl rfl ?_
        refine tl_isub rfl ?_
        show jT _ _ 86 _ _ _ _
        refine tl_iadd rfl ?_
        first | rw [show S 4 p + (t : Int) = sx by omega] | rw [show S 4 p + (S 2 p - 1 - (t : Int)) = sx by omega]
        refine tl_istore rfl (Nat.le_of_ble_eq_true rfl) rfl ?_
        refine tl_aload_n rfl rfl ?_
        refine tl_iload rfl rfl ?_
        refine tl_aload_n rfl rfl ?_
        refine tl_getr (c := 12) (k9 := 23) (b := 403) rfl rfl rfl rfl ?_
        refine tl_iload rfl rfl ?_
        show jT _ _ 98 _ _ _ _
        refine tl_iald (n := 64) rfl rfl rfl (by omega) (by omega) ?_
        rw [show mem 403 sx.toNat = g 0 sx.toNat by omega]
        refine tl_aload_n rfl rfl ?_
        refine tl_getr (c := 12) (k9 := 24) (b := 404) rfl rfl rfl rfl ?_
        refine tl_iload rfl rfl ?_
        refine tl_iald (n := 64) rfl rfl rfl (by omega) (by omega) ?_
        rw [show mem 404 sx.toNat = g 1 sx.toNat by omega]
        refine tl_v3v (c9 := 12) (r_toWrite l mem g R F 1000 (L ++ cpL S p t) kk (by omega) sx (g 0 sx.toNat) (g 1 sx.toNat) (by rw [(bg_s (R := R)).1, if_pos (by omega)]) (by rw [bg_s.2.2, if_pos (by omega)])) rfl rfl rfl rfl rfl (Nat.le_of_ble_eq_true rfl) (fun h9 p9 => ?_)
        obtain ⟨k2, f2⟩ := p9
        refine tl_iinc rfl rfl rfl ?_
        show jT _ _ 112 _ _ _ _
        refine tl_goto (tgt := 41) rfl rfl ?_
        show jT _ _ 41 _ _ _ _
        -- leaf 1 at 41
        exact ih (t + 1) h9 (some (.int (jI sx))) (by omega) ⟨by omega, by rw [show cpL S p (t + 1) = cpL S p t ++ [sx] from by rw [cpL, es], ← List.append_assoc]; exact k2, fun x hx9 => (f2 x hx9).trans (fr x hx9)⟩
      · show jT _ _ 72 _ _ _ _
        refine tl_iload_n rfl rfl ?_
        refine tl_goto (tgt := 86) rfl rfl ?_
        refine tl_iadd rfl ?_
        first | rw [show S 4 p + (t : Int) = sx by omega] | rw [show S 4 p + (S 2 p - 1 - (t : Int)) = sx by omega]
        refine tl_istore rfl (Nat.le_of_ble_eq_true rfl) rfl ?_
        refine tl_aload_n rfl rfl ?_
        refine tl_iload rfl rfl ?_
        show jT _ _ 92 _ _ _ _
        refine tl_aload_n rfl rfl ?_
        refine tl_getr (c := 12) (k9 := 23) (b := 403) rfl rfl rfl rfl ?_
        refine tl_iload rfl rfl ?_
        refine tl_iald (n := 64) rfl rfl rfl (by omega) (by omega) ?_
        rw [show mem 403 sx.toNat = g 0 sx.toNat by omega]
        refine tl_aload_n rfl rfl ?_
        refine tl_getr (c := 12) (k9 := 24) (b := 404) rfl rfl rfl rfl ?_
        refine tl_iload rfl rfl ?_
        show jT _ _ 105 _ _ _ _
        refine tl_iald (n := 64) rfl rfl rfl (by omega) (by omega) ?_
        rw [show mem 404 sx.toNat = g 1 sx.toNat by omega]
        refine tl_v3v (c9 := 12) (r_toWrite l mem g R F 1000 (L ++ cpL S p t) kk (by omega) sx (g 0 sx.toNat) (g 1 sx.toNat) (by rw [(bg_s (R := R)).1, if_pos (by omega)]) (by rw [bg_s.2.2, if_pos (by omega)])) rfl rfl rfl rfl rfl (Nat.le_of_ble_eq_true rfl) (fun h9 p9 => ?_)
        obtain ⟨k2, f2⟩ := p9
        refine tl_iinc rfl rfl rfl ?_
        refine tl_goto (tgt := 41) rfl rfl ?_
        show jT _ _ 41 _ _ _ _
        -- leaf 2 at 41
        exact ih (t + 1) h9 (some (.int (jI sx))) (by omega) ⟨by omega, by rw [show cpL S p (t + 1) = cpL S p t ++ [sx] from by rw [cpL, es], ← List.append_assoc]; exact k2, fun x hx9 => (f2 x hx9).trans (fr x hx9)⟩
set_option maxRecDepth 20000 in
set_option maxHeartbeats 1000000 in
theorem r_lr_A (l : Launch) (h : jH) (S : jH) (n : Nat) (sb : SB9 S n) (g : jH) (R F : Nat → Int) (N : Nat) (hv : OGv g N) (hg : OGR h g N) (kp : PTR h S n) (hn : h 388 38 = (n : Int)) (hN : ∀ q, q < n → S 4 q + S 2 q + S 3 q ≤ (N : Int) ∧ 0 ≤ S 3 q) (Q : jH) (k9 : ORR h n Q) (oi : OI S n (orW S n) Q) (lc : (plC S Q (Q 2 0).toNat).length ≤ 64) (P : Option Value → jH → Prop) (hx : ∀ mem y2 y3 y4, (mem 390 = bgR 1000 (plC S Q (Q 2 0).toNat) g R F ∧ (∀ x, x ≠ 390 → mem x = h x)) → jT l 308 121 [some (.ref 388), some (.int (jI (Q 2 0))), y2, y3, y4] [] mem P) : ∀ (m : Nat) (k : Nat) (mem : jH) (y2 : Option Value) (y3 : Option Value) (y4 : Option Value), (Q 2 0).toNat - k < m → ((k : Int) ≤ Q 2 0 ∧ mem 390 = bgR 1000 (plC S Q k) g R F ∧ (∀ x, x ≠ 390 → mem x = h x)) → jT l 308 24 [some (.ref 388), some (.int (jI ((k : Int)))), y2, y3, y4] [] mem P := by
  have n99 := sb.1
  have wb := orW_b (S := S) (n := n)
  have oi2 := oi.2.2.1
  intro m
  induction m with
  | zero => intro k mem y2 y3 y4 hk; omega
  | succ m ih =>
    intro k mem y2 y3 y4 hk hi
    obtain ⟨i0, kk, fr⟩ := hi
    have e1 : mem 388 53 = Q 2 0 := by rw [fr 388 (by decide)]; exact k9.2.1
    have kf : Q 2 0 ≤ (k : Int) ∨ ((k : Int) < Q 2 0 ∧ mem 417 k = Q 1 k ∧ 0 ≤ Q 1 k ∧ Q 1 k < (n : Int)) := by
      by_cases c : (k : Int) < Q 2 0
      · have a := oi.2.2.2 k c
        exact Or.inr ⟨c, by rw [fr 417 (by decide)]; exact k9.2.2 k c, a.1, a.2.1⟩
      · exact Or.inl (by omega)
    refine tl_iload_n rfl rfl ?_
    refine tl_aload_n rfl rfl ?_
    refine tl_geti (c := 12) (k9 := 53) rfl rfl rfl ?_
    rw [e1]
    refine tl_icmp_ge (tgt := 121) rfl rfl ⟨by omega, by omega⟩ ⟨by omega, by omega⟩ (fun c1 => ?_) (fun c1 => ?_)
    · skip
      show jT _ _ 121 _ _ _ _
      -- leaf 0 at 121
      have e : k = (Q 2 0).toNat := by omega
      subst e
      rw [show (((Q 2 0).toNat : Nat) : Int) = Q 2 0 by omega]
      exact hx mem _ _ _ ⟨kk, fr⟩
    · show jT _ _ 32 _ _ _ _
      obtain ⟨p, ep⟩ : ∃ p : Nat, Q 1 k = (p : Int) := ⟨(Q 1 k).toNat, by omega⟩
      have sp := sb.2 p (by omega)
      have sp2 := sp.2.1
      have sN := hN p (by omega)
      have pk : plC S Q (k + 1) = plC S Q k ++ cpL S p (S 2 p).toNat := by rw [plC, ep, Int.toNat_natCast]
      have pm := plC_m (S := S) (Q := Q) (a := k + 1) ((Q 2 0).toNat - (k + 1))
      rw [show k + 1 + ((Q 2 0).toNat - (k + 1)) = (Q 2 0).toNat by omega, pk, List.length_append, cpL_len] at pm
      refine tl_aload_n rfl rfl ?_
      refine tl_getr (c := 12) (k9 := 52) (b := 417) rfl rfl rfl rfl ?_
      show jT _ _ 36 _ _ _ _
      refine tl_iload_n rfl rfl ?_
      refine tl_iald (n := 100) rfl rfl rfl (by omega) (by omega) ?_
      rw [Int.toNat_natCast, show mem 417 k = (p : Int) by omega]
      refine tl_istore_n rfl (Nat.le_of_ble_eq_true rfl) rfl ?_
      refine tl_iconst rfl ?_
      refine tl_istore_n rfl (Nat.le_of_ble_eq_true rfl) rfl ?_
      show jT _ _ 41 _ _ _ _
      -- leaf 1 at 41
      refine r_lr_A2 l mem S n sb g R F N hv ⟨by rw [fr 388 (by decide)]; exact hg.1, fun i hi => by rw [fr 403 (by decide), fr 404 (by decide)]; exact hg.2 i hi⟩ (kp.of (fun x x1 x2 => fr x (by omega))) (by rw [fr 388 (by decide)]; exact hn) hN p (by omega) (k : Int) (plC S Q k) (by omega) _ (fun mem2 y3 y4 hj => ?_) _ 0 mem _ (Nat.lt_succ_self _) ⟨by omega, by rw [cpL, List.append_nil]; exact kk, fun _ _ => rfl⟩
      obtain ⟨k2, f2⟩ := hj
      refine tl_iinc rfl rfl rfl ?_
      refine tl_goto (tgt := 24) rfl rfl ?_
      show jT _ _ 24 _ _ _ _
      -- leaf 0 at 24
      exact ih (k + 1) mem2 _ _ _ (by omega) ⟨by omega, by rw [pk]; exact k2, fun x hx9 => (f2 x hx9).trans (fr x hx9)⟩
set_option maxRecDepth 20000 in
set_option maxHeartbeats 1000000 in
theorem r_lr_B (l : Launch) (h : jH) (S : jH) (n : Nat) (sb : SB9 S n) (g : jH) (R F : Nat → Int) (N : Nat) (hv : OGv g N) (hg : OGR h g N) (kp : PTR h S n) (hn : h 388 38 = (n : Int)) (hN : ∀ q, q < n → S 4 q + S 2 q + S 3 q ≤ (N : Int) ∧ 0 ≤ S 3 q) (Q : jH) (k9 : ORR h n Q) (oi : OI S n (orW S n) Q) (cm : ∀ i, i < N → h 413 i = coV g R i) (LC : List Int) (lX : LC.length + (plX S Q g n N).length ≤ 64) (P : Option Value → jH → Prop) (hP : ∀ mem, (mem 390 = bgR LC.length (LC ++ plX S Q g n N) g R F ∧ (∀ x, x ≠ 390 → mem x = h x)) → P none mem) : ∀ (m : Nat) (i : Nat) (mem : jH) (y2 : Option Value) (y3 : Option Value) (y4 : Option Value), N - i < m → (i ≤ N ∧ mem 390 = bgR LC.length (LC ++ plX S Q g n i) g R F ∧ (∀ x, x ≠ 390 → mem x = h x)) → jT l 308 123 [some (.ref 388), some (.int (jI ((i : Int)))), y2, y3, y4] [] mem P := by
  have n64 := hv.1
  have n99 := sb.1
  intro m
  induction m with
  | zero => intro i mem y2 y3 y4 hk; omega
  | succ m ih =>
    intro i mem y2 y3 y4 hk hi
    obtain ⟨i0, kk, fr⟩ := hi
    have e25 : mem 388 25 = (N : Int) := by rw [fr 388 (by decide)]; exact hg.1
    have kf : N ≤ i ∨ (i < N ∧ mem 403 i = g 0 i ∧ -1 ≤ g 0 i ∧ g 0 i ≤ 63 ∧ mem 413 i = coV g R i) := by
      by_cases c : i < N
      · have a := (hv.2 i c).1
        exact Or.inr ⟨c, by rw [fr 403 (by decide)]; exact (hg.2 i c).1, a.1, a.2, by rw [fr 413 (by decide)]; exact cm i c⟩
      · exact Or.inl (by omega)
    have ky : kpt S Q g n i = true → plX S Q g n (i + 1) = plX S Q g n i ++ [(i : Int)] := fun w => by rw [plX, if_pos w]
    have kn : kpt S Q g n i = false → plX S Q g n (i + 1) = plX S Q g n i := fun w => by rw [plX, if_neg (by rw [w]; decide)]
    have ll : i < N → kpt S Q g n i = true → (LC ++ plX S Q g n i).length < 64 := fun c w => by
      have a := plX_m (S := S) (Q := Q) (g := g) (n := n) (a := i + 1) (N - (i + 1))
      rw [show i + 1 + (N - (i + 1)) = N by omega, ky w, List.length_append] at a
      rw [List.length_append]
      change _ + 1 ≤ _ at a
      omega
    have kdef : kpt S Q g n i = (decide (g 0 i = -1) || drp S Q i n) := rfl
    refine tl_iload_n rfl rfl ?_
    refine tl_aload_n rfl rfl ?_
    refine tl_geti (c := 12) (k9 := 25) rfl rfl rfl ?_
    rw [e25]
    refine tl_icmp_ge (tgt := 167) rfl rfl ⟨by omega, by omega⟩ ⟨by omega, by omega⟩ (fun c1 => ?_) (fun c1 => ?_)
    · skip
      refine tl_ret rfl ?_
      -- leaf 0 at 167
      have e : i = N := by omega
      subst e
      exact hP mem ⟨kk, fr⟩
    · show jT _ _ 131 _ _ _ _
      refine tl_aload_n rfl rfl ?_
      show jT _ _ 132 _ _ _ _
      refine tl_getr (c := 12) (k9 := 23) (b := 403) rfl rfl rfl rfl ?_
      refine tl_iload_n rfl rfl ?_
      refine tl_iald (n := 64) rfl rfl rfl (by omega) (by omega) ?_
      rw [Int.toNat_natCast, show mem 403 i = g 0 i by omega]
      refine tl_iconst rfl ?_
      refine tl_icmp_eq (tgt := 149) rfl rfl ⟨by omega, by omega⟩ ⟨by omega, by omega⟩ (fun c2 => ?_) (fun c2 => ?_)
      · skip
        have kt : kpt S Q g n i = true := by rw [kdef, decide_eq_true (by omega), Bool.true_or]
        refine tl_aload_n rfl rfl ?_
        refine tl_iload_n rfl rfl ?_
        show jT _ _ 151 _ _ _ _
        refine tl_iconst rfl ?_
        refine tl_aload_n rfl rfl ?_
        refine tl_getr (c := 12) (k9 := 44) (b := 413) rfl rfl rfl rfl ?_
        refine tl_iload_n rfl rfl ?_
        refine tl_iald (n := 64) rfl rfl rfl (by omega) (by omega) ?_
        rw [Int.toNat_natCast, show mem 413 i = coV g R i by omega]
        refine tl_v3v (c9 := 12) (r_toWrite l mem g R F LC.length (LC ++ plX S Q g n i) kk (ll (by omega) kt) (i : Int) (-1) (coV g R i) (by rw [(bg_s (R := R)).1, if_neg (by rw [List.length_append]; omega)]) (by rw [bg_s.2.2, if_neg (by rw [List.length_append]; omega), Int.toNat_natCast])) rfl rfl rfl rfl rfl (Nat.le_of_ble_eq_true rfl) (fun h9 p9 => ?_)
        obtain ⟨k2, f2⟩ := p9
        refine tl_iinc rfl rfl rfl ?_
        show jT _ _ 164 _ _ _ _
        refine tl_goto (tgt := 123) rfl rfl ?_
        show jT _ _ 123 _ _ _ _
        -- leaf 1 at 123
        exact ih (i + 1) h9 _ _ _ (by omega) ⟨by omega, by rw [ky kt, ← List.append_assoc]; exact k2, fun x hx9 => (f2 x hx9).trans (fr x hx9)⟩
      · show jT _ _ 141 _ _ _ _
        refine tl_aload_n rfl rfl ?_
        refine tl_iload_n rfl rfl ?_
        refine tl_v1i (c9 := 12) (r_isDropped l mem S n sb (kp.of (fun x x1 x2 => fr x (by omega))) (by rw [fr 388 (by decide)]; exact hn) Q _ oi ⟨fun q hq => by rw [fr 418 (by decide)]; exact k9.1 q hq, by rw [fr 388 (by decide)]; exact k9.2.1, fun q hq => by rw [fr 417 (by decide)]; exact k9.2.2 q hq⟩ i (by omega)) rfl rfl rfl rfl rfl (Nat.le_of_ble_eq_true rfl) (fun z1 h1 p1 => ?_)
        obtain ⟨q1, p1⟩ := p1
        have q1 := q1.symm
        subst q1
        have b1 := zb_b (drp S Q i n)
        subst p1
        refine tl_if_eq (tgt := 161) rfl rfl ⟨by omega, by omega⟩ (fun c3 => ?_) (fun c3 => ?_)
        · skip
          have es := zb0 c3
          refine tl_iinc rfl rfl rfl ?_
          refine tl_goto (tgt := 123) rfl rfl ?_
          show jT _ _ 123 _ _ _ _
          -- leaf 2 at 123
          have kt : kpt S Q g n i = false := by rw [kdef, es, decide_eq_false (by omega)]; rfl
          exact ih (i + 1) mem _ _ _ (by omega) ⟨by omega, by rw [kn kt]; exact kk, fr⟩
        · show jT _ _ 149 _ _ _ _
          have es := zb1' c3
          have kt : kpt S Q g n i = true := by rw [kdef, es, Bool.or_true]
          show jT _ _ 149 _ _ _ _
          refine tl_aload_n rfl rfl ?_
          refine tl_iload_n rfl rfl ?_
          refine tl_iconst rfl ?_
          refine tl_aload_n rfl rfl ?_
          refine tl_getr (c := 12) (k9 := 44) (b := 413) rfl rfl rfl rfl ?_
          refine tl_iload_n rfl rfl ?_
          refine tl_iald (n := 64) rfl rfl rfl (by omega) (by omega) ?_
          rw [Int.toNat_natCast, show mem 413 i = coV g R i by omega]
          show jT _ _ 158 _ _ _ _
          refine tl_v3v (c9 := 12) (r_toWrite l mem g R F LC.length (LC ++ plX S Q g n i) kk (ll (by omega) kt) (i : Int) (-1) (coV g R i) (by rw [(bg_s (R := R)).1, if_neg (by rw [List.length_append]; omega)]) (by rw [bg_s.2.2, if_neg (by rw [List.length_append]; omega), Int.toNat_natCast])) rfl rfl rfl rfl rfl (Nat.le_of_ble_eq_true rfl) (fun h9 p9 => ?_)
          obtain ⟨k2, f2⟩ := p9
          refine tl_iinc rfl rfl rfl ?_
          refine tl_goto (tgt := 123) rfl rfl ?_
          show jT _ _ 123 _ _ _ _
          -- leaf 3 at 123
          exact ih (i + 1) h9 _ _ _ (by omega) ⟨by omega, by rw [ky kt, ← List.append_assoc]; exact k2, fun x hx9 => (f2 x hx9).trans (fr x hx9)⟩
set_option maxRecDepth 20000 in
set_option maxHeartbeats 4000000 in
theorem r_layRun (l : Launch) (h : jH) (S : jH) (n : Nat) (sb : SB9 S n) (g : jH) (R F : Nat → Int) (N : Nat) (hv : OGv g N) (hg : OGR h g N) (kp : PTR h S n) (hn : h 388 38 = (n : Int)) (hN : ∀ q, q < n → S 4 q + S 2 q + S 3 q ≤ (N : Int) ∧ 0 ≤ S 3 q) (e390 : h 390 = F) (cm : ∀ i, i < N → h 413 i = coV g R i) (oi : OI S n (orW S n) (orT S n (orW S n).toNat)) (lX : (plC S (orT S n (orW S n).toNat) ((orT S n (orW S n).toNat) 2 0).toNat).length + (plX S (orT S n (orW S n).toNat) g n N).length ≤ 64) : cV l 308 [.ref 388] h (fun h' => h' 390 = bgR (plC S (orT S n (orW S n).toNat) ((orT S n (orW S n).toNat) 2 0).toNat).length (plC S (orT S n (orW S n).toNat) ((orT S n (orW S n).toNat) 2 0).toNat ++ plX S (orT S n (orW S n).toNat) g n N) g R F ∧ (∀ x, x ≠ 388 → x ≠ 390 → x ≠ 417 → x ≠ 418 → h' x = h x) ∧ ∀ q, q ≠ 53 → h' 388 q = h 388 q) := by
  refine cV.of rfl rfl ?_
  refine tl_aload_n rfl rfl ?_
  refine tl_v0v (c9 := 12) (r_layOrder l h S n sb kp hn) rfl rfl rfl rfl rfl (Nat.le_of_ble_eq_true rfl) (fun h1 p1 => ?_)
  obtain ⟨k9, f1⟩ := p1
  have hg1 : OGR h1 g N := ⟨by rw [f1.2 25 (by decide)]; exact hg.1, fun i hi => by rw [f1.1 403 (by decide) (by decide) (by decide), f1.1 404 (by decide) (by decide) (by decide)]; exact hg.2 i hi⟩
  have kp1 : PTR h1 S n := kp.of (fun x x1 x2 => f1.1 x (by omega) (by omega) (by omega))
  have hn1 : h1 388 38 = (n : Int) := by rw [f1.2 38 (by decide)]; exact hn
  have cm1 : ∀ i, i < N → h1 413 i = coV g R i := fun i hi => by rw [f1.1 413 (by decide) (by decide) (by decide)]; exact cm i hi
  refine tl_aload_n rfl rfl ?_
  refine tl_getr (c := 12) (k9 := 3) (b := 390) rfl rfl rfl rfl ?_
  refine tl_sipush rfl rfl ?_
  refine tl_iconst rfl ?_
  show jT _ _ 12 _ _ _ _
  refine tl_iast (n := 1362) rfl rfl rfl (by omega) (by omega) ?_
  rw [show Int.toNat 1168 = 1168 from rfl]
  refine tl_aload_n rfl rfl ?_
  refine tl_getr (c := 12) (k9 := 3) (b := 390) rfl rfl rfl rfl ?_
  refine tl_sipush rfl rfl ?_
  refine tl_iconst rfl ?_
  refine tl_iast (n := 1362) rfl rfl rfl (by omega) (by omega) ?_
  rw [show Int.toNat 1169 = 1169 from rfl]
  refine tl_iconst rfl ?_
  show jT _ _ 23 _ _ _ _
  refine tl_istore_n rfl (Nat.le_of_ble_eq_true rfl) rfl ?_
  show jT _ _ 24 _ _ _ _
  -- leaf 0 at 24
  refine r_lr_A l h1 S n sb g R F N hv hg1 kp1 hn1 hN (orT S n (orW S n).toNat) k9 oi (by omega) _ (fun m2 y2 y3 y4 hi => ?_) _ 0 _ _ _ _ (Nat.lt_succ_self _) ⟨oi.2.2.1.1, ?_, fun x hx9 => by rw [hs_O hx9, hs_O hx9]⟩
  rotate_left
  · funext i
    show _ = bgR 1000 [] g R F i
    unfold bgR
    by_cases a : i = 1168
    · subst a; rw [if_pos rfl, hs_k (by decide), hs_s]; rfl
    · rw [if_neg a]
      by_cases b : i = 1169
      · subst b; rw [if_pos rfl, hs_s]
      · rw [if_neg b, if_neg (fun w => by have := w.2; change i < 1170 + 3 * 0 at this; omega), hs_k b, hs_k a, f1.1 390 (by decide) (by decide) (by decide), e390]
  obtain ⟨kk2, fr2⟩ := hi
  refine tl_iconst rfl ?_
  refine tl_istore_n rfl (Nat.le_of_ble_eq_true rfl) rfl ?_
  show jT _ _ 123 _ _ _ _
  -- leaf 0 at 123
  refine r_lr_B l h1 S n sb g R F N hv hg1 kp1 hn1 hN (orT S n (orW S n).toNat) k9 oi cm1 (plC S (orT S n (orW S n).toNat) ((orT S n (orW S n).toNat) 2 0).toNat) lX _ (fun m3 hz => ⟨rfl, hz.1, fun x x1 x2 x3 x4 => by rw [hz.2 x x2]; exact f1.1 x x1 x3 x4, fun q hq => by rw [hz.2 388 (by decide)]; exact f1.2 q hq⟩) _ 0 m2 _ _ _ (Nat.lt_succ_self _) ⟨Nat.zero_le _, ?_, fr2⟩
  show m2 390 = bgR _ (plC S (orT S n (orW S n).toNat) ((orT S n (orW S n).toNat) 2 0).toNat ++ []) g R F
  rw [List.append_nil, kk2]
  exact bgR_cc (by omega)
