/-! keep: the class's side of remember -/
theorem RSf.congr {h : jH} {r p : Nat} {R R' : Nat → Int} (hF : RSf h r R p) (hp : 5 ≤ p) (hp2 : p + 65 ≤ 1362) (e : ∀ i, 5 ≤ i → i < 1362 → R' i = R i) : RSf h r R' p := by
  obtain ⟨a1, a2, a3, a4⟩ := hF
  have e0 := e p hp (by omega)
  refine ⟨by rw [e0]; exact a1, by rw [e0]; exact a2, by rw [e0]; exact a3, fun i hi => ?_⟩
  rw [e0] at hi
  rw [e (p + 1 + i) (by omega) (by omega)]
  exact a4 i hi
theorem RSs.congr {h : jH} {r p : Nat} {R R' : Nat → Int} (hF : RSs h r R p) (hp : 5 ≤ p) (hp2 : p + 301 ≤ 1362) (e : ∀ i, 5 ≤ i → i < 1362 → R' i = R i) : RSs h r R' p := by
  obtain ⟨a1, a2, a4⟩ := hF
  have e0 := e p hp (by omega)
  refine ⟨by rw [e0]; exact a1, by rw [e0]; exact a2, fun i hi => ?_⟩
  rw [e0] at hi
  rw [e (p + 1 + i) (by omega) (by omega)]
  exact a4 i hi
theorem RS.congr {h : jH} {b : Nat} {R R' : Nat → Int} (hF : RS h b R) (e : ∀ i, 5 ≤ i → i < 1362 → R' i = R i) : RS h b R' := by
  obtain ⟨a1, a2, a3, a4⟩ := hF
  refine ⟨fun f hf => (a1 f hf).congr (by omega) (by omega) e, fun k hk => (a2 k hk).congr (by omega) (by omega) e, fun i hi => ?_, ?_⟩
  · rw [e (1103 + i) (by omega) (by omega)]
    exact a3 i hi
  · obtain ⟨r1, r2, r3, r4, r5⟩ := a4
    refine ⟨by rw [e 1167 (by decide) (by decide)]; exact r1, r2, r3, by rw [e 1167 (by decide) (by decide)]; exact r4, fun z => ?_⟩
    rw [e 1167 (by decide) (by decide)] at z
    obtain ⟨s1, s2, s3, s4, s5, s6, s7⟩ := r5 z
    rw [e 1168 (by decide) (by decide), e 1169 (by decide) (by decide), e 5 (by decide) (by decide)]
    refine ⟨s1, s2, s3, s4, s5, s6, fun i hi => ?_⟩
    rw [e (1170 + 3 * i) (by omega) (by omega), e (1171 + 3 * i) (by omega) (by omega), e (1172 + 3 * i) (by omega) (by omega)]
    exact s7 i hi
set_option maxRecDepth 20000 in
set_option maxHeartbeats 2000000 in
theorem k_keep_tail (l : Launch) (m : jH) (R : Nat → Int) (hR : RS m 1 R) (act : Int) (f c : Nat) (hf : f < 16) (hc : c < 16) (e3 : m 0 3 = (f : Int)) (e4 : m 0 4 = (c : Int)) (x0 : Option Value) (P : Option Value → jH → Prop)
    (hP : ∀ h', RS h' (20 + 18 * ((f + c) % 16)) R → (∀ i, h' 308 i = if i = (f + c) % 16 then act else m 308 i) → (∀ q, h' 0 q = if q = 4 then (c : Int) + 1 else m 0 q) → (∀ x, x ≠ 0 → x ≠ 308 → (x < 20 + 18 * ((f + c) % 16) ∨ 20 + 18 * ((f + c) % 16) + 18 ≤ x) → h' x = m x) → P none h') : jT l 194 32 [some (.ref 0), some (.int (jI act)), x0] [] m P := by
  have hlt : (f + c) % 16 < 16 := Nat.mod_lt _ (by decide)
  have HB := StS_past _ hlt
  refine tl_aload_n rfl rfl ?_
  refine tl_geti (c := 11) (k9 := 3) rfl rfl rfl ?_
  rw [e3]
  refine tl_aload_n rfl rfl ?_
  refine tl_geti (c := 11) (k9 := 4) rfl rfl rfl ?_
  rw [e4]
  refine tl_iadd rfl ?_
  refine tl_bipush rfl rfl ?_
  show jT _ _ 43 _ _ _ _
  refine tl_irem rfl (by omega) (by omega) (by omega) (by omega) ?_
  refine tl_istore_n rfl (Nat.le_of_ble_eq_true rfl) rfl ?_
  refine tl_aload_n rfl rfl ?_
  refine tl_getr (c := 11) (k9 := 1) (b := 19) rfl rfl rfl rfl ?_
  refine tl_iload_n rfl rfl ?_
  skip
  refine tl_aald (b := 20 + 18 * ((f + c) % 16)) (n := 16) rfl (Or.inr rfl) rfl (by omega) (by omega) (by rw [show (((f : Int) + (c : Int)) % 16).toNat = (f + c) % 16 by omega]; exact sr19 _ (Nat.mod_lt _ (by decide))) ?_
  refine tl_aload_n rfl rfl ?_
  show jT _ _ 52 _ _ _ _
  refine tl_getr (c := 11) (k9 := 0) (b := 1) rfl rfl rfl rfl ?_
  refine tl_v1v (c9 := 9) (k_copy l HB StS_now (Or.inr (by omega)) m R hR) rfl rfl rfl HB.1 rfl (Nat.le_of_ble_eq_true rfl) (fun h2 q => ?_)
  obtain ⟨q1, q2⟩ := q
  refine tl_aload_n rfl rfl ?_
  refine tl_getr (c := 11) (k9 := 2) (b := 308) rfl rfl rfl rfl ?_
  refine tl_iload_n rfl rfl ?_
  refine tl_iload_n rfl rfl ?_
  refine tl_iast (n := 16) rfl rfl rfl (by omega) (by omega) ?_
  rw [show (((f : Int) + (c : Int)) % 16).toNat = (f + c) % 16 by omega]
  show jT _ _ 65 _ _ _ _
  refine tl_aload_n rfl rfl ?_
  refine tl_dup rfl rfl ?_
  refine tl_geti (c := 11) (k9 := 4) rfl rfl rfl ?_
  rw [hs_o (show (0 : Nat) ≠ 308 by decide), q2 0 (by omega), e4]
  refine tl_iconst rfl ?_
  refine tl_iadd rfl ?_
  refine tl_puti (c := 11) (k9 := 4) rfl rfl rfl rfl ?_
  refine tl_ret rfl ?_
  -- leaf 0 at 75
  refine hP _ (q1.keep (fun x hx1 hx2 => ?_)) (fun i => ?_) (fun q => ?_) (fun x hx1 hx2 hx3 => ?_)
  · funext q
    rw [hs_o (by omega), hs_o (by omega)]
  · rw [hs_o (by decide)]
    by_cases hi : i = (f + c) % 16
    · rw [if_pos hi, hi, hs_s]
    · rw [if_neg hi, hs_k hi, q2 308 (by omega)]
  · by_cases hq : q = 4
    · rw [if_pos hq, hq, hs_s]
    · rw [if_neg hq, hs_k hq, hs_o (by decide), q2 0 (by omega)]
  · funext q
    rw [hs_o hx1, hs_o hx2, q2 x hx3]
theorem IC.undo_same {h h' s : jH} (hU : RU h s) (e0 : h' 0 3 = h 0 3) (e1 : h' 0 4 = h 0 4) (e2 : h' 308 = h 308) (e3 : ∀ x, 20 ≤ x → x < 308 → h' x = h x) : RU h' s := by
  obtain ⟨u1, u2, u3, u4, u5, u6⟩ := hU
  refine ⟨by rw [e1]; exact u1, u2, u3, by rw [e0]; exact u4, by rw [e0]; exact u5, fun k hk => ?_⟩
  rw [e0, e2]
  have hm : ((h 0 3).toNat + k) % 16 < 16 := Nat.mod_lt _ (by decide)
  obtain ⟨v1, v2⟩ := u6 k hk
  exact ⟨v1.keep (fun x h1 h2 => e3 x (by omega) (by omega)), v2⟩
theorem Trem_o {s : jH} {act : Int} {x : Nat} (h1 : x ≠ 388) (h2 : x ≠ 391) (h3 : x ≠ 392) : Trem s act x = s x := by
  unfold Trem
  split
  · rw [hw_o h3, hw_o h2]
  · funext q
    rw [hs_o h1, hw_o h3, hw_o h2]
theorem Trem_n {s : jH} {act : Int} {q : Nat} (hq : q ≠ 6) : Trem s act 388 q = s 388 q := by
  unfold Trem
  split
  · rw [hw_o (by decide), hw_o (by decide)]
  · rw [hs_k hq, hw_o (by decide), hw_o (by decide)]
set_option maxRecDepth 20000 in
set_option maxHeartbeats 2000000 in
/-- keep(act) -/
theorem k_keep (l : Launch) (h s : jH) (t act : Int) (hI : IC h s t) (a0 : 0 ≤ act) (a1 : act ≤ 18) : cV l 194 [.ref 0, .int (jI act)] h (fun h' => IC h' (Trem s act) t ∧ (∀ x, (1 ≤ x ∧ x < 20) ∨ 309 ≤ x → h' x = h x)) := by
  obtain ⟨hR, ⟨u1, u2, u3, u4, u5, u6⟩, hT, hN⟩ := hI
  have fin : ∀ (f c : Nat) (m h' : jH), f < 16 → c < 16 → RS h' (20 + 18 * ((f + c) % 16)) (s 390) → (∀ i, h' 308 i = if i = (f + c) % 16 then act else m 308 i) → (∀ q, h' 0 q = if q = 4 then (c : Int) + 1 else m 0 q) → (∀ x, x ≠ 0 → x ≠ 308 → (x < 20 + 18 * ((f + c) % 16) ∨ 20 + 18 * ((f + c) % 16) + 18 ≤ x) → h' x = m x) → m 0 3 = (f : Int) → (∀ q, q ≠ 3 → q ≠ 4 → m 0 q = h 0 q) → (∀ x, x ≠ 0 → m x = h x) → Trem s act 388 6 = (c : Int) + 1 → (∀ k, k < c → RS h (20 + 18 * ((f + k) % 16)) (fun i => Trem s act 391 (1357 * k + i - 5)) ∧ h 308 ((f + k) % 16) = Trem s act 392 k ∧ 0 ≤ Trem s act 392 k ∧ Trem s act 392 k ≤ 18) → (∀ i, 5 ≤ i → i < 1362 → Trem s act 391 (1357 * c + i - 5) = s 390 i) → Trem s act 392 c = act → IC h' (Trem s act) t ∧ (∀ x, (1 ≤ x ∧ x < 20) ∨ 309 ≤ x → h' x = h x) := by
    intro f c m h' hf hc b1 b2 b3 b4 b5 b6 b7 b8 b9 b10 b11
    have hlt : (f + c) % 16 < 16 := Nat.mod_lt _ (by decide)
    have hfr : ∀ x, (1 ≤ x ∧ x < 20) ∨ 309 ≤ x → h' x = h x := fun x hx => by rw [b4 x (by omega) (by omega) (by omega), b7 x (by omega)]
    refine ⟨⟨?_, ?_, ?_, ?_⟩, hfr⟩
    · rw [Trem_o (by decide) (by decide) (by decide)]
      exact hR.keep (fun x h1 h2 => hfr x (by omega))
    · have e03 : h' 0 3 = (f : Int) := by rw [b3, if_neg (by decide), b5]
      refine ⟨by rw [b3, if_pos rfl, b8], by rw [b8]; omega, by rw [b8]; omega, by rw [e03]; omega, by rw [e03]; omega, fun k hk => ?_⟩
      rw [e03, Int.toNat_natCast]
      rw [b8] at hk
      have hkl : (f + k) % 16 < 16 := Nat.mod_lt _ (by decide)
      rcases Nat.lt_or_ge k c with kc | kc
      · obtain ⟨c1, c2, c3, c4⟩ := b9 k kc
        have hne : (f + k) % 16 ≠ (f + c) % 16 := by omega
        refine ⟨c1.keep (fun x h1 h2 => by rw [b4 x (by omega) (by omega) (by omega), b7 x (by omega)]), ?_, c3, c4⟩
        rw [b2, if_neg hne, b7 308 (by decide), c2]
      · have ek : k = c := by omega
        subst ek
        refine ⟨b1.congr (fun i i1 i2 => b10 i i1 i2), ?_, ?_, ?_⟩
        · rw [b2, if_pos rfl, b11]
        · rw [b11]; exact a0
        · rw [b11]; exact a1
    · obtain ⟨t1, t2, t3, t4⟩ := hT
      refine ⟨?_, ?_, ?_, fun i hi => ?_⟩
      · rw [hfr 309 (by omega), Trem_n (by decide)]; exact t1
      · rw [Trem_n (by decide)]; exact t2
      · rw [Trem_n (by decide)]; exact t3
      · rw [Trem_n (by decide)] at hi
        rw [hfr 310 (by omega), Trem_o (by decide) (by decide) (by decide)]
        exact t4 i hi
    · unfold RN at *
      rw [Trem_o (show (390 : Nat) ≠ 388 by decide) (by decide) (by decide), Trem_o (show (389 : Nat) ≠ 388 by decide) (by decide) (by decide), Trem_n (show 1 ≠ 6 by decide), Trem_n (show 45 ≠ 6 by decide), Trem_n (show 48 ≠ 6 by decide), Trem_n (show 49 ≠ 6 by decide), Trem_n (show 59 ≠ 6 by decide), Trem_n (show 74 ≠ 6 by decide), hfr 311 (by omega), hfr 312 (by omega), hfr 356 (by omega), hfr 362 (by omega), b3 8, b3 9, if_neg (by decide), if_neg (by decide), b6 8 (by decide) (by decide), b6 9 (by decide) (by decide)]
      exact hN
  refine cV.of rfl rfl ?_
  refine tl_aload_n rfl rfl ?_
  refine tl_geti (c := 11) (k9 := 4) rfl rfl rfl ?_
  refine tl_bipush rfl rfl ?_
  refine tl_icmp_ne (tgt := 32) rfl rfl ⟨by omega, by omega⟩ ⟨by omega, by omega⟩ (fun c1 => ?_) (fun c1 => ?_)
  · skip
    show jT _ _ 32 _ _ _ _
    -- leaf 0 at 32
    refine k_keep_tail l h (s 390) hR act (h 0 3).toNat (h 0 4).toNat (by omega) (by omega) (by omega) (by omega) _ _ (fun h9 b1 b2 b3 b4 => ⟨rfl, fin (h 0 3).toNat (h 0 4).toNat h h9 (by omega) (by omega) b1 b2 b3 b4 (by omega) (fun _ _ _ => rfl) (fun _ _ => rfl) ?_ (fun k hk => ?_) (fun i i1 i2 => ?_) ?_⟩)
    · rw [Trem, if_neg (by omega), hs_s]; omega
    · obtain ⟨v1, v2, v3⟩ := u6 k (by omega)
      have et : Trem s act 392 k = s 392 k := by rw [Trem, if_neg (by omega), hs_o (by decide), hw_s, if_neg (by omega)]
      rw [et]
      refine ⟨v1.congr (fun i i1 i2 => ?_), v2, v3⟩
      rw [Trem, if_neg (by omega), hs_o (by decide), hw_o (by decide), hw_s, va_cpy, if_neg (by omega)]
    · rw [Trem, if_neg (by omega), hs_o (by decide), hw_o (by decide), hw_s, va_cpy, if_pos (by omega)]
      congr 1
      omega
    · rw [Trem, if_neg (by omega), hs_o (by decide), hw_s, if_pos (by omega)]
  · show jT _ _ 9 _ _ _ _
    refine tl_aload_n rfl rfl ?_
    refine tl_aload_n rfl rfl ?_
    show jT _ _ 11 _ _ _ _
    refine tl_geti (c := 11) (k9 := 3) rfl rfl rfl ?_
    refine tl_iconst rfl ?_
    refine tl_iadd rfl ?_
    refine tl_bipush rfl rfl ?_
    refine tl_irem rfl (by omega) (by omega) (by omega) (by omega) ?_
    refine tl_puti (c := 11) (k9 := 3) rfl rfl rfl rfl ?_
    refine tl_aload_n rfl rfl ?_
    show jT _ _ 23 _ _ _ _
    refine tl_dup rfl rfl ?_
    refine tl_geti (c := 11) (k9 := 4) rfl rfl rfl ?_
    rw [hs_k (show 4 ≠ 3 by decide)]
    refine tl_iconst rfl ?_
    refine tl_isub rfl ?_
    refine tl_puti (c := 11) (k9 := 4) rfl rfl rfl rfl ?_
    show jT _ _ 32 _ _ _ _
    -- leaf 1 at 32
    have c16 : h 0 4 = 16 := by omega
    refine k_keep_tail l _ (s 390) (hR.keep (fun x h1 h2 => by funext q; rw [hs_o (by omega), hs_o (by omega)])) act ((h 0 3 + 1) % 16).toNat 15 (by omega) (by decide) ?_ ?_ _ _ (fun h9 b1 b2 b3 b4 => ⟨rfl, fin ((h 0 3 + 1) % 16).toNat 15 _ h9 (by omega) (by decide) b1 b2 b3 b4 ?_ (fun q q1 q2 => ?_) (fun x hx => ?_) ?_ (fun k hk => ?_) (fun i i1 i2 => ?_) ?_⟩)
    · rw [hs_k (by decide), hs_s]; omega
    · rw [hs_s, c16]; rfl
    · rw [hs_k (by decide), hs_s]; omega
    · rw [hs_k q2, hs_k q1]
    · funext q
      rw [hs_o hx, hs_o hx]
    · rw [Trem, if_pos (by omega), hw_o (by decide), hw_o (by decide)]; omega
    · obtain ⟨v1, v2, v3⟩ := u6 (k + 1) (by omega)
      have et : Trem s act 392 k = s 392 (k + 1) := by rw [Trem, if_pos (by omega), hw_s, if_neg (by omega), sft, if_pos (by omega)]
      have em : (((h 0 3 + 1) % 16).toNat + k) % 16 = ((h 0 3).toNat + (k + 1)) % 16 := by omega
      rw [et, em]
      refine ⟨v1.congr (fun i i1 i2 => ?_), v2, v3⟩
      rw [Trem, if_pos (by omega), hw_o (by decide), hw_s, va_cpy, if_neg (by omega), sft, if_pos (by omega)]
      congr 1
      omega
    · rw [Trem, if_pos (by omega), hw_o (by decide), hw_s, va_cpy, if_pos (by omega)]
      exact congrArg (s 390) (by omega)
    · rw [Trem, if_pos (by omega), hw_s, if_pos rfl]
