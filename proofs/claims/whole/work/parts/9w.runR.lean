/-! recipes: run, of the reference -/
def RTb (h T : jH) (SD : List Int) (ns : Nat) : Prop := h 388 62 = (ns : Int) ∧ ns ≤ 24 ∧ RRt h T ns ∧ (∀ i, i < ns → T 0 i = 4 → h 424 i = T 4 i) ∧ (∀ i, i < SD.length → h 425 i = SD.getD i 0) ∧ SD.length ≤ 400
def FRv (h h' : jH) : Prop := (∀ x, x ≠ 388 → x ≠ 403 → x ≠ 404 → x ≠ 426 → x ≠ 427 → h' x = h x) ∧ ∀ q, q ≠ 25 → q ≠ 72 → q ≠ 73 → q ≠ 74 → h' 388 q = h 388 q
theorem FRv.rfl9 {h : jH} : FRv h h := ⟨fun _ _ _ _ _ _ => rfl, fun _ _ _ _ _ => rfl⟩
theorem FRv.trans {a b c : jH} (h1 : FRv a b) (h2 : FRv b c) : FRv a c := ⟨fun y a1 a2 a3 a4 a5 => (h2.1 y a1 a2 a3 a4 a5).trans (h1.1 y a1 a2 a3 a4 a5), fun q a1 a2 a3 a4 => (h2.2 q a1 a2 a3 a4).trans (h1.2 q a1 a2 a3 a4)⟩
theorem RTb.of {h h' T : jH} {SD : List Int} {ns : Nat} (k : RTb h T SD ns) (f : FRv h h') : RTb h' T SD ns := by
  obtain ⟨a, b, c, d, e, g⟩ := k
  have F : ∀ x, 420 ≤ x → x ≤ 425 → h' x = h x := fun x x1 x2 => f.1 x (by omega) (by omega) (by omega) (by omega) (by omega)
  refine ⟨by rw [f.2 62 (by decide) (by decide) (by decide) (by decide)]; exact a, b, fun i hi => ?_, fun i hi q => by rw [F 424 (by decide) (by decide)]; exact d i hi q, fun i hi => by rw [F 425 (by decide) (by decide)]; exact e i hi, g⟩
  rw [F 420 (by decide) (by decide), F 421 (by decide) (by decide), F 422 (by decide) (by decide), F 423 (by decide) (by decide)]
  exact c i hi
theorem OGR.ad {h g : jH} {n : Nat} {p v : Int} (k : OGR h g n) : OGR (hs (hs (hs h 403 n p) 404 n v) 388 25 ((n : Int) + 1)) (hs (hs g 0 n p) 1 n v) (n + 1) := by
  refine ⟨by rw [hs_s]; omega, fun i hi => ?_⟩
  rw [hs_o (show (403 : Nat) ≠ 388 by decide), hs_o (show (404 : Nat) ≠ 388 by decide)]
  by_cases e : i = n
  · subst e
    rw [hs_o (show (403 : Nat) ≠ 404 by decide), hs_s, hs_s, hs_o (show (0 : Nat) ≠ 1 by decide), hs_s, hs_s]
    exact ⟨rfl, rfl⟩
  · rw [hs_k2 e, hs_k2 e, hs_k2 e, hs_k2 e, hs_k2 e, hs_k2 e, hs_k2 e, hs_k2 e]
    exact k.2 i (by omega)
section WH
variable {T : jH} {R5 : Int} {k n : Nat}
theorem wh9_4 (q : (T 0 k = 0 ∧ R5 < T 2 k + T 1 k) ∨ (T 0 k = 3 ∧ (n : Int) < T 2 k)) : wh9 T R5 k n = -4 := by rw [wh9, if_pos q]
theorem wh9_5 (q : ¬ ((T 0 k = 0 ∧ R5 < T 2 k + T 1 k) ∨ (T 0 k = 3 ∧ (n : Int) < T 2 k))) (q2 : 64 < (n : Int) + T 1 k) : wh9 T R5 k n = -5 := by rw [wh9, if_neg q, if_pos q2]
theorem wh9_0 (q : ¬ ((T 0 k = 0 ∧ R5 < T 2 k + T 1 k) ∨ (T 0 k = 3 ∧ (n : Int) < T 2 k))) (q2 : ¬ 64 < (n : Int) + T 1 k) : wh9 T R5 k n = 0 := by rw [wh9, if_neg q, if_neg q2]
theorem RNG.a9 {L : Nat} (r : RNG T k L) : (0 ≤ T 0 k ∧ T 0 k ≤ 4) ∧ (1 ≤ T 1 k ∧ T 1 k ≤ 400) := ⟨r.1, r.2.1⟩
theorem RNG.t0 {L : Nat} (r : RNG T k L) : T 0 k ≠ 0 ∨ (0 ≤ T 2 k ∧ T 2 k ≤ 63) := by by_cases c : T 0 k = 0; exact Or.inr (r.2.2.2.1 c); exact Or.inl c
theorem RNG.t2 {L : Nat} (r : RNG T k L) : T 0 k ≠ 2 ∨ (0 ≤ T 2 k ∧ T 2 k + T 1 k ≤ (L : Int)) := by by_cases c : T 0 k = 2; exact Or.inr (r.2.2.2.2.2.1 c); exact Or.inl c
theorem RNG.t3 {L : Nat} (r : RNG T k L) : T 0 k ≠ 3 ∨ (1 ≤ T 2 k ∧ T 2 k ≤ 64) := by by_cases c : T 0 k = 3; exact Or.inr (r.2.2.2.2.2.2.1 c); exact Or.inl c
end WH
set_option maxRecDepth 20000 in
set_option maxHeartbeats 1000000 in
theorem r_lay (l : Launch) (h : jH) (n : Nat) (p v : Int) (n64 : n < 64) (en : h 388 25 = (n : Int)) : cV l 329 [.ref 388, .int (jI p), .int (jI v)] h (fun h' => h' = hs (hs (hs h 403 n p) 404 n v) 388 25 ((n : Int) + 1)) := by
  refine cV.of rfl rfl ?_
  refine tl_aload_n rfl rfl ?_
  refine tl_getr (c := 12) (k9 := 23) (b := 403) rfl rfl rfl rfl ?_
  refine tl_aload_n rfl rfl ?_
  refine tl_geti (c := 12) (k9 := 25) rfl rfl rfl ?_
  rw [en]
  refine tl_iload_n rfl rfl ?_
  refine tl_iast (n := 64) rfl rfl rfl (by omega) (by omega) ?_
  rw [Int.toNat_natCast]
  show jT _ _ 10 _ _ _ _
  refine tl_aload_n rfl rfl ?_
  refine tl_getr (c := 12) (k9 := 24) (b := 404) rfl rfl rfl rfl ?_
  refine tl_aload_n rfl rfl ?_
  refine tl_geti (c := 12) (k9 := 25) rfl rfl rfl ?_
  rw [hs_o (by decide), en]
  refine tl_iload_n rfl rfl ?_
  refine tl_iast (n := 64) rfl rfl rfl (by omega) (by omega) ?_
  rw [Int.toNat_natCast]
  refine tl_aload_n rfl rfl ?_
  show jT _ _ 21 _ _ _ _
  refine tl_dup rfl rfl ?_
  refine tl_geti (c := 12) (k9 := 25) rfl rfl rfl ?_
  rw [hs_o (by decide), hs_o (by decide), en]
  refine tl_iconst rfl ?_
  refine tl_iadd rfl ?_
  refine tl_puti (c := 12) (k9 := 25) rfl rfl rfl rfl ?_
  refine tl_ret rfl ?_
  -- leaf 0 at 30
  exact ⟨rfl, rfl⟩
set_option maxRecDepth 20000 in
set_option maxHeartbeats 1000000 in
theorem r_rl_lp (l : Launch) (h T : jH) (SD : List Int) (ns k n : Nat) (g : jH) (ct : RTb h T SD ns) (kn : k < ns) (k4n : T 0 k ≠ 4) (rg9 : RNG T k SD.length) (n64 : (n : Int) + T 1 k ≤ 64) (ag9 : T 0 k ≠ 3 ∨ T 2 k ≤ (n : Int)) (e73 : h 388 73 = 0) (cn : Int) (P : Option Value → jH → Prop) (hP : ∀ mem, (OGR mem (gA T SD k g n (T 1 k).toNat) (n + (T 1 k).toNat) ∧ (∀ x, x ≠ 388 → x ≠ 403 → x ≠ 404 → mem x = h x) ∧ ∀ q, q ≠ 25 → mem 388 q = h 388 q) → P none mem) : ∀ (m : Nat) (i : Nat) (mem : jH), (T 1 k).toNat - i < m → ((i : Int) ≤ T 1 k ∧ OGR mem (gA T SD k g n i) (n + i) ∧ ((∀ x, x ≠ 388 → x ≠ 403 → x ≠ 404 → mem x = h x) ∧ ∀ q, q ≠ 25 → mem 388 q = h 388 q)) → jT l 330 144 [some (.ref 388), some (.int (jI ((k : Int)))), some (.int (jI (T 1 k))), some (.int (jI (cn))), some (.int (jI ((i : Int))))] [] mem P := by
  have n24 := ct.2.1
  have r0 := rg9.a9.1
  have r1 := rg9.a9.2
  have l4 := ct.2.2.2.2.2
  intro m
  induction m with
  | zero => intro i mem hk; omega
  | succ m ih =>
    intro i mem hk hi
    obtain ⟨i0, og, fr, fr2⟩ := hi
    have ctm : RTb mem T SD ns := ct.of ⟨fun x a b c _ _ => fr x a b c, fun q a _ _ _ => fr2 q a⟩
    have og1 := og.1
    refine tl_iload rfl rfl ?_
    refine tl_iload_n rfl rfl ?_
    refine tl_icmp_ge (tgt := 288) rfl rfl ⟨by omega, by omega⟩ ⟨by omega, by omega⟩ (fun c1 => ?_) (fun c1 => ?_)
    · skip
      refine tl_ret rfl ?_
      -- leaf 0 at 288
      have e : (T 1 k).toNat = i := by omega
      exact hP mem ⟨by rw [e]; exact og, fr, fr2⟩
    · show jT _ _ 150 _ _ _ _
      refine tl_aload_n rfl rfl ?_
      refine tl_geti (c := 12) (k9 := 73) rfl rfl rfl ?_
      rw [fr2 73 (by decide), e73]
      show jT _ _ 154 _ _ _ _
      refine tl_if_ne (tgt := 288) rfl rfl ⟨by omega, by omega⟩ (fun c2 => ?_) (fun c2 => ?_)
      · skip
        exfalso; omega
      · show jT _ _ 157 _ _ _ _
        refine tl_aload_n rfl rfl ?_
        refine tl_getr (c := 12) (k9 := 63) (b := 420) rfl rfl rfl rfl ?_
        refine tl_iload_n rfl rfl ?_
        refine tl_iald (n := 24) rfl rfl rfl (by omega) (by omega) ?_
        rw [Int.toNat_natCast, (ctm.2.2.1 k kn).1]
        by_cases ct3 : T 0 k < 0 ∨ 2 < T 0 k
        · refine tl_tabO (tgt := 246) rfl ⟨by omega, by omega⟩ ct3 rfl ?_
          refine tl_aload_n rfl rfl ?_
          show jT _ _ 247 _ _ _ _
          refine tl_aload_n rfl rfl ?_
          refine tl_getr (c := 12) (k9 := 23) (b := 403) rfl rfl rfl rfl ?_
          refine tl_aload_n rfl rfl ?_
          refine tl_geti (c := 12) (k9 := 25) rfl rfl rfl ?_
          rw [og1]
          refine tl_aload_n rfl rfl ?_
          refine tl_getr (c := 12) (k9 := 65) (b := 422) rfl rfl rfl rfl ?_
          refine tl_iload_n rfl rfl ?_
          show jT _ _ 260 _ _ _ _
          refine tl_iald (n := 24) rfl rfl rfl (by omega) (by omega) ?_
          have t3 := rg9.t3
          rw [Int.toNat_natCast, (ctm.2.2.1 k kn).2.2.2.1 (by omega) (by omega)]
          refine tl_isub rfl ?_
          refine tl_iald (n := 64) rfl rfl rfl (by omega) (by omega) ?_
          rw [(og.2 (((n + i : Nat) : Int) - T 2 k).toNat (by omega)).1]
          refine tl_aload_n rfl rfl ?_
          refine tl_getr (c := 12) (k9 := 24) (b := 404) rfl rfl rfl rfl ?_
          refine tl_aload_n rfl rfl ?_
          refine tl_geti (c := 12) (k9 := 25) rfl rfl rfl ?_
          rw [og1]
          show jT _ _ 271 _ _ _ _
          refine tl_aload_n rfl rfl ?_
          refine tl_getr (c := 12) (k9 := 65) (b := 422) rfl rfl rfl rfl ?_
          refine tl_iload_n rfl rfl ?_
          refine tl_iald (n := 24) rfl rfl rfl (by omega) (by omega) ?_
          rw [Int.toNat_natCast, (ctm.2.2.1 k kn).2.2.2.1 (by omega) (by omega)]
          refine tl_isub rfl ?_
          refine tl_iald (n := 64) rfl rfl rfl (by omega) (by omega) ?_
          rw [(og.2 (((n + i : Nat) : Int) - T 2 k).toNat (by omega)).2]
          refine tl_v2v (c9 := 12) (r_lay l mem (n + i) _ _ (by omega) og.1) rfl rfl rfl rfl rfl (Nat.le_of_ble_eq_true rfl) (fun h1 p1 => ?_)
          show jT _ _ 282 _ _ _ _
          refine tl_iinc rfl rfl rfl ?_
          refine tl_goto (tgt := 144) rfl rfl ?_
          show jT _ _ 144 _ _ _ _
          -- leaf 1 at 144
          subst p1
          refine jT.loc ?_ (ih (i + 1) _ (by omega) ⟨by omega, ?_, fun x a b c => by rw [hs_O a, hs_O c, hs_O b]; exact fr x a b c, fun q a => by rw [hs_k a, hs_o (by decide), hs_o (by decide)]; exact fr2 q a⟩)
          · rw [show ((i + 1 : Nat) : Int) = (i : Int) + 1 by omega]; rfl
          · first
            | (have e0 : T 0 k = 0 := by omega
               rw [gA, show n + (i + 1) = n + i + 1 by omega, pl9, vl9, if_pos e0, if_pos e0]
               exact og.ad)
            | (have e0 : T 0 k = 1 := by omega
               rw [gA, show n + (i + 1) = n + i + 1 by omega, pl9, vl9, if_neg (show ¬ T 0 k = 0 by omega), if_neg (show ¬ T 0 k = 0 by omega), if_pos e0, if_pos e0]
               exact og.ad)
            | (have e0 : T 0 k = 2 := by omega
               rw [gA, show n + (i + 1) = n + i + 1 by omega, pl9, vl9, if_neg (show ¬ T 0 k = 0 by omega), if_neg (show ¬ T 0 k = 0 by omega), if_neg (show ¬ T 0 k = 1 by omega), if_neg (show ¬ T 0 k = 1 by omega), if_pos e0, if_pos e0]
               exact og.ad)
            | (have e0 : ¬ T 0 k = 2 := by omega
               rw [gA, show n + (i + 1) = n + i + 1 by omega, pl9, vl9, if_neg (show ¬ T 0 k = 0 by omega), if_neg (show ¬ T 0 k = 0 by omega), if_neg (show ¬ T 0 k = 1 by omega), if_neg (show ¬ T 0 k = 1 by omega), if_neg e0, if_neg e0]
               exact og.ad)
        · have ct3b : T 0 k = 0 ∨ T 0 k = 1 ∨ T 0 k = 2 := by omega
          rcases ct3b with ct3b | ct3b | ct3b
          · refine tl_tabI (off := 25) (tgt := 188) rfl ⟨by omega, by omega⟩ (by omega) (by omega) (by rw [ct3b]; rfl) rfl ?_
            refine tl_aload_n rfl rfl ?_
            refine tl_aload_n rfl rfl ?_
            refine tl_getr (c := 12) (k9 := 65) (b := 422) rfl rfl rfl rfl ?_
            refine tl_iload_n rfl rfl ?_
            refine tl_iald (n := 24) rfl rfl rfl (by omega) (by omega) ?_
            rw [Int.toNat_natCast, (ctm.2.2.1 k kn).2.2.2.1 (by omega) (by omega)]
            show jT _ _ 195 _ _ _ _
            refine tl_iload rfl rfl ?_
            refine tl_iadd rfl ?_
            refine tl_aload_n rfl rfl ?_
            refine tl_getr (c := 12) (k9 := 66) (b := 423) rfl rfl rfl rfl ?_
            refine tl_iload_n rfl rfl ?_
            refine tl_iald (n := 24) rfl rfl rfl (by omega) (by omega) ?_
            rw [Int.toNat_natCast, (ctm.2.2.1 k kn).2.2.2.2 (by omega)]
            refine tl_v2v (c9 := 12) (r_lay l mem (n + i) _ _ (by omega) og.1) rfl rfl rfl rfl rfl (Nat.le_of_ble_eq_true rfl) (fun h1 p1 => ?_)
            show jT _ _ 207 _ _ _ _
            refine tl_goto (tgt := 282) rfl rfl ?_
            refine tl_iinc rfl rfl rfl ?_
            refine tl_goto (tgt := 144) rfl rfl ?_
            show jT _ _ 144 _ _ _ _
            -- leaf 2 at 144
            subst p1
            refine jT.loc ?_ (ih (i + 1) _ (by omega) ⟨by omega, ?_, fun x a b c => by rw [hs_O a, hs_O c, hs_O b]; exact fr x a b c, fun q a => by rw [hs_k a, hs_o (by decide), hs_o (by decide)]; exact fr2 q a⟩)
            · rw [show ((i + 1 : Nat) : Int) = (i : Int) + 1 by omega]; rfl
            · first
              | (have e0 : T 0 k = 0 := by omega
                 rw [gA, show n + (i + 1) = n + i + 1 by omega, pl9, vl9, if_pos e0, if_pos e0]
                 exact og.ad)
              | (have e0 : T 0 k = 1 := by omega
                 rw [gA, show n + (i + 1) = n + i + 1 by omega, pl9, vl9, if_neg (show ¬ T 0 k = 0 by omega), if_neg (show ¬ T 0 k = 0 by omega), if_pos e0, if_pos e0]
                 exact og.ad)
              | (have e0 : T 0 k = 2 := by omega
                 rw [gA, show n + (i + 1) = n + i + 1 by omega, pl9, vl9, if_neg (show ¬ T 0 k = 0 by omega), if_neg (show ¬ T 0 k = 0 by omega), if_neg (show ¬ T 0 k = 1 by omega), if_neg (show ¬ T 0 k = 1 by omega), if_pos e0, if_pos e0]
                 exact og.ad)
              | (have e0 : ¬ T 0 k = 2 := by omega
                 rw [gA, show n + (i + 1) = n + i + 1 by omega, pl9, vl9, if_neg (show ¬ T 0 k = 0 by omega), if_neg (show ¬ T 0 k = 0 by omega), if_neg (show ¬ T 0 k = 1 by omega), if_neg (show ¬ T 0 k = 1 by omega), if_neg e0, if_neg e0]
                 exact og.ad)
          · refine tl_tabI (off := 47) (tgt := 210) rfl ⟨by omega, by omega⟩ (by omega) (by omega) (by rw [ct3b]; rfl) rfl ?_
            refine tl_aload_n rfl rfl ?_
            refine tl_iconst rfl ?_
            refine tl_aload_n rfl rfl ?_
            refine tl_getr (c := 12) (k9 := 65) (b := 422) rfl rfl rfl rfl ?_
            show jT _ _ 216 _ _ _ _
            refine tl_iload_n rfl rfl ?_
            refine tl_iald (n := 24) rfl rfl rfl (by omega) (by omega) ?_
            rw [Int.toNat_natCast, (ctm.2.2.1 k kn).2.2.2.1 (by omega) (by omega)]
            refine tl_v2v (c9 := 12) (r_lay l mem (n + i) _ _ (by omega) og.1) rfl rfl rfl rfl rfl (Nat.le_of_ble_eq_true rfl) (fun h1 p1 => ?_)
            refine tl_goto (tgt := 282) rfl rfl ?_
            refine tl_iinc rfl rfl rfl ?_
            refine tl_goto (tgt := 144) rfl rfl ?_
            show jT _ _ 144 _ _ _ _
            -- leaf 3 at 144
            subst p1
            refine jT.loc ?_ (ih (i + 1) _ (by omega) ⟨by omega, ?_, fun x a b c => by rw [hs_O a, hs_O c, hs_O b]; exact fr x a b c, fun q a => by rw [hs_k a, hs_o (by decide), hs_o (by decide)]; exact fr2 q a⟩)
            · rw [show ((i + 1 : Nat) : Int) = (i : Int) + 1 by omega]; rfl
            · first
              | (have e0 : T 0 k = 0 := by omega
                 rw [gA, show n + (i + 1) = n + i + 1 by omega, pl9, vl9, if_pos e0, if_pos e0]
                 exact og.ad)
              | (have e0 : T 0 k = 1 := by omega
                 rw [gA, show n + (i + 1) = n + i + 1 by omega, pl9, vl9, if_neg (show ¬ T 0 k = 0 by omega), if_neg (show ¬ T 0 k = 0 by omega), if_pos e0, if_pos e0]
                 exact og.ad)
              | (have e0 : T 0 k = 2 := by omega
                 rw [gA, show n + (i + 1) = n + i + 1 by omega, pl9, vl9, if_neg (show ¬ T 0 k = 0 by omega), if_neg (show ¬ T 0 k = 0 by omega), if_neg (show ¬ T 0 k = 1 by omega), if_neg (show ¬ T 0 k = 1 by omega), if_pos e0, if_pos e0]
                 exact og.ad)
              | (have e0 : ¬ T 0 k = 2 := by omega
                 rw [gA, show n + (i + 1) = n + i + 1 by omega, pl9, vl9, if_neg (show ¬ T 0 k = 0 by omega), if_neg (show ¬ T 0 k = 0 by omega), if_neg (show ¬ T 0 k = 1 by omega), if_neg (show ¬ T 0 k = 1 by omega), if_neg e0, if_neg e0]
                 exact og.ad)
          · refine tl_tabI (off := 61) (tgt := 224) rfl ⟨by omega, by omega⟩ (by omega) (by omega) (by rw [ct3b]; rfl) rfl ?_
            refine tl_aload_n rfl rfl ?_
            show jT _ _ 225 _ _ _ _
            refine tl_iconst rfl ?_
            refine tl_aload_n rfl rfl ?_
            refine tl_getr (c := 12) (k9 := 68) (b := 425) rfl rfl rfl rfl ?_
            refine tl_aload_n rfl rfl ?_
            refine tl_getr (c := 12) (k9 := 64) (b := 421) rfl rfl rfl rfl ?_
            refine tl_iload_n rfl rfl ?_
            refine tl_iald (n := 24) rfl rfl rfl (by omega) (by omega) ?_
            have t2 := rg9.t2
            rw [Int.toNat_natCast, ((ctm.2.2.1 k kn).2.2.1 (by omega)).1]
            show jT _ _ 236 _ _ _ _
            refine tl_iload rfl rfl ?_
            refine tl_iadd rfl ?_
            refine tl_iald (n := 400) rfl rfl rfl (by omega) (by omega) ?_
            rw [ctm.2.2.2.2.1 (T 2 k + (i : Int)).toNat (by omega)]
            refine tl_v2v (c9 := 12) (r_lay l mem (n + i) _ _ (by omega) og.1) rfl rfl rfl rfl rfl (Nat.le_of_ble_eq_true rfl) (fun h1 p1 => ?_)
            refine tl_goto (tgt := 282) rfl rfl ?_
            refine tl_iinc rfl rfl rfl ?_
            refine tl_goto (tgt := 144) rfl rfl ?_
            show jT _ _ 144 _ _ _ _
            -- leaf 4 at 144
            subst p1
            refine jT.loc ?_ (ih (i + 1) _ (by omega) ⟨by omega, ?_, fun x a b c => by rw [hs_O a, hs_O c, hs_O b]; exact fr x a b c, fun q a => by rw [hs_k a, hs_o (by decide), hs_o (by decide)]; exact fr2 q a⟩)
            · rw [show ((i + 1 : Nat) : Int) = (i : Int) + 1 by omega]; rfl
            · first
              | (have e0 : T 0 k = 0 := by omega
                 rw [gA, show n + (i + 1) = n + i + 1 by omega, pl9, vl9, if_pos e0, if_pos e0]
                 exact og.ad)
              | (have e0 : T 0 k = 1 := by omega
                 rw [gA, show n + (i + 1) = n + i + 1 by omega, pl9, vl9, if_neg (show ¬ T 0 k = 0 by omega), if_neg (show ¬ T 0 k = 0 by omega), if_pos e0, if_pos e0]
                 exact og.ad)
              | (have e0 : T 0 k = 2 := by omega
                 rw [gA, show n + (i + 1) = n + i + 1 by omega, pl9, vl9, if_neg (show ¬ T 0 k = 0 by omega), if_neg (show ¬ T 0 k = 0 by omega), if_neg (show ¬ T 0 k = 1 by omega), if_neg (show ¬ T 0 k = 1 by omega), if_pos e0, if_pos e0]
                 exact og.ad)
              | (have e0 : ¬ T 0 k = 2 := by omega
                 rw [gA, show n + (i + 1) = n + i + 1 by omega, pl9, vl9, if_neg (show ¬ T 0 k = 0 by omega), if_neg (show ¬ T 0 k = 0 by omega), if_neg (show ¬ T 0 k = 1 by omega), if_neg (show ¬ T 0 k = 1 by omega), if_neg e0, if_neg e0]
                 exact og.ad)
set_option maxRecDepth 20000 in
set_option maxHeartbeats 1000000 in
theorem r_rs144 (l : Launch) (mem T : jH) (k : Nat) (w9 cn : Int) (t1 : 1 ≤ T 1 k ∧ T 1 k ≤ 400) (e73 : mem 388 73 = w9) (w0 : w9 = -4 ∨ w9 = -5) (P : Option Value → jH → Prop) (hP : P none mem) : jT l 330 144 [some (.ref 388), some (.int (jI ((k : Int)))), some (.int (jI (T 1 k))), some (.int (jI (cn))), some (.int (jI (0)))] [] mem P := by
  refine tl_iload rfl rfl ?_
  refine tl_iload_n rfl rfl ?_
  refine tl_icmp_ge (tgt := 288) rfl rfl ⟨by omega, by omega⟩ ⟨by omega, by omega⟩ (fun c1 => ?_) (fun c1 => ?_)
  · skip
    refine tl_ret rfl ?_
    -- leaf 0 at 288
    exact hP
  · show jT _ _ 150 _ _ _ _
    refine tl_aload_n rfl rfl ?_
    refine tl_geti (c := 12) (k9 := 73) rfl rfl rfl ?_
    rw [e73]
    show jT _ _ 154 _ _ _ _
    refine tl_if_ne (tgt := 288) rfl rfl ⟨by omega, by omega⟩ (fun c2 => ?_) (fun c2 => ?_)
    · skip
      refine tl_ret rfl ?_
      -- leaf 1 at 288
      exact hP
    · show jT _ _ 157 _ _ _ _
      show jT _ _ 157 _ _ _ _
      -- leaf 2 at 157
      exfalso; omega
set_option maxRecDepth 20000 in
set_option maxHeartbeats 1000000 in
theorem r_rs33 (l : Launch) (h T : jH) (SD : List Int) (ns k n : Nat) (g : jH) (ct : RTb h T SD ns) (kn : k < ns) (k4n : T 0 k ≠ 4) (rg9 : RNG T k SD.length) (n64 : n ≤ 64) (hg : OGR h g n) (R5 : Int) (e5 : h 390 5 = R5) (r50 : 0 ≤ R5) (r51 : R5 ≤ 64) (P : Option Value → jH → Prop) (hP : ∀ h', (h' 388 73 = wh9 T R5 k n ∧ h' 388 74 = (if wh9 T R5 k n = 0 then -1 else (k : Int)) ∧ (wh9 T R5 k n = 0 → OGR h' (gA T SD k g n (T 1 k).toNat) (n + (T 1 k).toNat)) ∧ (∀ x, x ≠ 388 → x ≠ 403 → x ≠ 404 → h' x = h x) ∧ ∀ q, q ≠ 25 → q ≠ 73 → q ≠ 74 → h' 388 q = h 388 q) → P none h') : jT l 330 33 [some (.ref 388), some (.int (jI ((k : Int)))), some (.int (jI (T 1 k))), none, none] [] h P := by
  have n24 := ct.2.1
  have r0 := rg9.a9.1
  have r1 := rg9.a9.2
  have en := hg.1
  have t0 := rg9.t0
  have t3 := rg9.t3
  refine tl_aload_n rfl rfl ?_
  refine tl_getr (c := 12) (k9 := 63) (b := 420) rfl rfl rfl rfl ?_
  refine tl_iload_n rfl rfl ?_
  refine tl_iald (n := 24) rfl rfl rfl (by omega) (by omega) ?_
  rw [Int.toNat_natCast, (ct.2.2.1 k kn).1]
  refine tl_if_ne (tgt := 66) rfl rfl ⟨by omega, by omega⟩ (fun c1 => ?_) (fun c1 => ?_)
  · skip
    refine tl_aload_n rfl rfl ?_
    show jT _ _ 67 _ _ _ _
    refine tl_getr (c := 12) (k9 := 63) (b := 420) rfl rfl rfl rfl ?_
    refine tl_iload_n rfl rfl ?_
    refine tl_iald (n := 24) rfl rfl rfl (by omega) (by omega) ?_
    rw [Int.toNat_natCast, (ct.2.2.1 k kn).1]
    refine tl_iconst rfl ?_
    refine tl_icmp_ne (tgt := 89) rfl rfl ⟨by omega, by omega⟩ ⟨by omega, by omega⟩ (fun c2 => ?_) (fun c2 => ?_)
    · skip
      refine tl_iconst rfl ?_
      refine tl_goto (tgt := 94) rfl rfl ?_
      show jT _ _ 94 _ _ _ _
      refine tl_istore_n rfl (Nat.le_of_ble_eq_true rfl) rfl ?_
      refine tl_aload_n rfl rfl ?_
      refine tl_iload_n rfl rfl ?_
      refine tl_if_ne (tgt := 105) rfl rfl ⟨by omega, by omega⟩ (fun c3 => ?_) (fun c3 => ?_)
      · skip
        refine tl_aload_n rfl rfl ?_
        refine tl_geti (c := 12) (k9 := 25) rfl rfl rfl ?_
        rw [en]
        refine tl_iload_n rfl rfl ?_
        show jT _ _ 110 _ _ _ _
        refine tl_iadd rfl ?_
        refine tl_bipush rfl rfl ?_
        refine tl_icmp_le (tgt := 121) rfl rfl ⟨by omega, by omega⟩ ⟨by omega, by omega⟩ (fun c4 => ?_) (fun c4 => ?_)
        · skip
          refine tl_iconst rfl ?_
          refine tl_puti (c := 12) (k9 := 73) rfl rfl rfl rfl ?_
          refine tl_aload_n rfl rfl ?_
          refine tl_aload_n rfl rfl ?_
          show jT _ _ 127 _ _ _ _
          refine tl_geti (c := 12) (k9 := 73) rfl rfl rfl ?_
          rw [hs_s]
          refine tl_if_ne (tgt := 137) rfl rfl ⟨by omega, by omega⟩ (fun c5 => ?_) (fun c5 => ?_)
          · skip
            refine tl_iload_n rfl rfl ?_
            refine tl_puti (c := 12) (k9 := 74) rfl rfl rfl rfl ?_
            refine tl_iconst rfl ?_
            refine tl_istore rfl (Nat.le_of_ble_eq_true rfl) rfl ?_
            show jT _ _ 144 _ _ _ _
            -- leaf 0 at 144
            first
              | (exfalso; omega)
              | (have w := wh9_4 (T := T) (R5 := R5) (k := k) (n := n) (by omega)
                 exact r_rs144 l _ T k (-4) _ r1 (by rw [hs_k (by decide), hs_s]) (by decide) P (hP _ ⟨by rw [hs_k (by decide), hs_s, w], by rw [hs_s, w, if_neg (by decide)], fun q => by rw [w] at q; exact absurd q (by decide), fun x a b c => by rw [hs_O a, hs_O a], fun q a b c => by rw [hs_k c, hs_k b]⟩))
              | (have w := wh9_5 (T := T) (R5 := R5) (k := k) (n := n) (by omega) (by omega)
                 exact r_rs144 l _ T k (-5) _ r1 (by rw [hs_k (by decide), hs_s]) (by decide) P (hP _ ⟨by rw [hs_k (by decide), hs_s, w], by rw [hs_s, w, if_neg (by decide)], fun q => by rw [w] at q; exact absurd q (by decide), fun x a b c => by rw [hs_O a, hs_O a], fun q a b c => by rw [hs_k c, hs_k b]⟩))
              | (have w := wh9_0 (T := T) (R5 := R5) (k := k) (n := n) (by omega) (by omega)
                 refine r_rl_lp l (hs (hs h 388 73 (0)) 388 74 (-1)) T SD ns k n g (ct.of ⟨fun x a b c _ _ => by rw [hs_O a, hs_O a], fun q a b c e => by rw [hs_k e, hs_k c]⟩) kn k4n rg9 (by omega) (by omega) (by rw [hs_k (by decide), hs_s]) _ _ (fun mem p => hP mem ⟨?_, ?_, fun _ => p.1, fun x a b c => by rw [p.2.1 x a b c, hs_O a, hs_O a], fun q a b c => by rw [p.2.2 q a, hs_k c, hs_k b]⟩) _ 0 _ (Nat.lt_succ_self _) ⟨by omega, ⟨by rw [hs_k (by decide), hs_k (by decide)]; exact hg.1, fun i hi => by rw [hs_o (by decide), hs_o (by decide), hs_o (by decide), hs_o (by decide)]; exact hg.2 i hi⟩, fun _ _ _ _ => rfl, fun _ _ => rfl⟩
                 · rw [p.2.2 73 (by decide), hs_k (by decide), hs_s, w]
                 · rw [p.2.2 74 (by decide), hs_s, if_pos w])
          · show jT _ _ 133 _ _ _ _
            refine tl_iconst rfl ?_
            show jT _ _ 134 _ _ _ _
            refine tl_goto (tgt := 138) rfl rfl ?_
            refine tl_puti (c := 12) (k9 := 74) rfl rfl rfl rfl ?_
            refine tl_iconst rfl ?_
            refine tl_istore rfl (Nat.le_of_ble_eq_true rfl) rfl ?_
            show jT _ _ 144 _ _ _ _
            -- leaf 1 at 144
            first
              | (exfalso; omega)
              | (have w := wh9_4 (T := T) (R5 := R5) (k := k) (n := n) (by omega)
                 exact r_rs144 l _ T k (-4) _ r1 (by rw [hs_k (by decide), hs_s]) (by decide) P (hP _ ⟨by rw [hs_k (by decide), hs_s, w], by rw [hs_s, w, if_neg (by decide)], fun q => by rw [w] at q; exact absurd q (by decide), fun x a b c => by rw [hs_O a, hs_O a], fun q a b c => by rw [hs_k c, hs_k b]⟩))
              | (have w := wh9_5 (T := T) (R5 := R5) (k := k) (n := n) (by omega) (by omega)
                 exact r_rs144 l _ T k (-5) _ r1 (by rw [hs_k (by decide), hs_s]) (by decide) P (hP _ ⟨by rw [hs_k (by decide), hs_s, w], by rw [hs_s, w, if_neg (by decide)], fun q => by rw [w] at q; exact absurd q (by decide), fun x a b c => by rw [hs_O a, hs_O a], fun q a b c => by rw [hs_k c, hs_k b]⟩))
              | (have w := wh9_0 (T := T) (R5 := R5) (k := k) (n := n) (by omega) (by omega)
                 refine r_rl_lp l (hs (hs h 388 73 (0)) 388 74 (-1)) T SD ns k n g (ct.of ⟨fun x a b c _ _ => by rw [hs_O a, hs_O a], fun q a b c e => by rw [hs_k e, hs_k c]⟩) kn k4n rg9 (by omega) (by omega) (by rw [hs_k (by decide), hs_s]) _ _ (fun mem p => hP mem ⟨?_, ?_, fun _ => p.1, fun x a b c => by rw [p.2.1 x a b c, hs_O a, hs_O a], fun q a b c => by rw [p.2.2 q a, hs_k c, hs_k b]⟩) _ 0 _ (Nat.lt_succ_self _) ⟨by omega, ⟨by rw [hs_k (by decide), hs_k (by decide)]; exact hg.1, fun i hi => by rw [hs_o (by decide), hs_o (by decide), hs_o (by decide), hs_o (by decide)]; exact hg.2 i hi⟩, fun _ _ _ _ => rfl, fun _ _ => rfl⟩
                 · rw [p.2.2 73 (by decide), hs_k (by decide), hs_s, w]
                 · rw [p.2.2 74 (by decide), hs_s, if_pos w])
        · show jT _ _ 116 _ _ _ _
          refine tl_bipush rfl rfl ?_
          refine tl_goto (tgt := 122) rfl rfl ?_
          refine tl_puti (c := 12) (k9 := 73) rfl rfl rfl rfl ?_
          show jT _ _ 125 _ _ _ _
          refine tl_aload_n rfl rfl ?_
          refine tl_aload_n rfl rfl ?_
          refine tl_geti (c := 12) (k9 := 73) rfl rfl rfl ?_
          rw [hs_s]
          refine tl_if_ne (tgt := 137) rfl rfl ⟨by omega, by omega⟩ (fun c6 => ?_) (fun c6 => ?_)
          · skip
            refine tl_iload_n rfl rfl ?_
            refine tl_puti (c := 12) (k9 := 74) rfl rfl rfl rfl ?_
            refine tl_iconst rfl ?_
            show jT _ _ 142 _ _ _ _
            refine tl_istore rfl (Nat.le_of_ble_eq_true rfl) rfl ?_
            show jT _ _ 144 _ _ _ _
            -- leaf 2 at 144
            first
              | (exfalso; omega)
              | (have w := wh9_4 (T := T) (R5 := R5) (k := k) (n := n) (by omega)
                 exact r_rs144 l _ T k (-4) _ r1 (by rw [hs_k (by decide), hs_s]) (by decide) P (hP _ ⟨by rw [hs_k (by decide), hs_s, w], by rw [hs_s, w, if_neg (by decide)], fun q => by rw [w] at q; exact absurd q (by decide), fun x a b c => by rw [hs_O a, hs_O a], fun q a b c => by rw [hs_k c, hs_k b]⟩))
              | (have w := wh9_5 (T := T) (R5 := R5) (k := k) (n := n) (by omega) (by omega)
                 exact r_rs144 l _ T k (-5) _ r1 (by rw [hs_k (by decide), hs_s]) (by decide) P (hP _ ⟨by rw [hs_k (by decide), hs_s, w], by rw [hs_s, w, if_neg (by decide)], fun q => by rw [w] at q; exact absurd q (by decide), fun x a b c => by rw [hs_O a, hs_O a], fun q a b c => by rw [hs_k c, hs_k b]⟩))
              | (have w := wh9_0 (T := T) (R5 := R5) (k := k) (n := n) (by omega) (by omega)
                 refine r_rl_lp l (hs (hs h 388 73 (0)) 388 74 (-1)) T SD ns k n g (ct.of ⟨fun x a b c _ _ => by rw [hs_O a, hs_O a], fun q a b c e => by rw [hs_k e, hs_k c]⟩) kn k4n rg9 (by omega) (by omega) (by rw [hs_k (by decide), hs_s]) _ _ (fun mem p => hP mem ⟨?_, ?_, fun _ => p.1, fun x a b c => by rw [p.2.1 x a b c, hs_O a, hs_O a], fun q a b c => by rw [p.2.2 q a, hs_k c, hs_k b]⟩) _ 0 _ (Nat.lt_succ_self _) ⟨by omega, ⟨by rw [hs_k (by decide), hs_k (by decide)]; exact hg.1, fun i hi => by rw [hs_o (by decide), hs_o (by decide), hs_o (by decide), hs_o (by decide)]; exact hg.2 i hi⟩, fun _ _ _ _ => rfl, fun _ _ => rfl⟩
                 · rw [p.2.2 73 (by decide), hs_k (by decide), hs_s, w]
                 · rw [p.2.2 74 (by decide), hs_s, if_pos w])
          · show jT _ _ 133 _ _ _ _
            refine tl_iconst rfl ?_
            refine tl_goto (tgt := 138) rfl rfl ?_
            refine tl_puti (c := 12) (k9 := 74) rfl rfl rfl rfl ?_
            refine tl_iconst rfl ?_
            refine tl_istore rfl (Nat.le_of_ble_eq_true rfl) rfl ?_
            show jT _ _ 144 _ _ _ _
            -- leaf 3 at 144
            first
              | (exfalso; omega)
              | (have w := wh9_4 (T := T) (R5 := R5) (k := k) (n := n) (by omega)
                 exact r_rs144 l _ T k (-4) _ r1 (by rw [hs_k (by decide), hs_s]) (by decide) P (hP _ ⟨by rw [hs_k (by decide), hs_s, w], by rw [hs_s, w, if_neg (by decide)], fun q => by rw [w] at q; exact absurd q (by decide), fun x a b c => by rw [hs_O a, hs_O a], fun q a b c => by rw [hs_k c, hs_k b]⟩))
              | (have w := wh9_5 (T := T) (R5 := R5) (k := k) (n := n) (by omega) (by omega)
                 exact r_rs144 l _ T k (-5) _ r1 (by rw [hs_k (by decide), hs_s]) (by decide) P (hP _ ⟨by rw [hs_k (by decide), hs_s, w], by rw [hs_s, w, if_neg (by decide)], fun q => by rw [w] at q; exact absurd q (by decide), fun x a b c => by rw [hs_O a, hs_O a], fun q a b c => by rw [hs_k c, hs_k b]⟩))
              | (have w := wh9_0 (T := T) (R5 := R5) (k := k) (n := n) (by omega) (by omega)
                 refine r_rl_lp l (hs (hs h 388 73 (0)) 388 74 (-1)) T SD ns k n g (ct.of ⟨fun x a b c _ _ => by rw [hs_O a, hs_O a], fun q a b c e => by rw [hs_k e, hs_k c]⟩) kn k4n rg9 (by omega) (by omega) (by rw [hs_k (by decide), hs_s]) _ _ (fun mem p => hP mem ⟨?_, ?_, fun _ => p.1, fun x a b c => by rw [p.2.1 x a b c, hs_O a, hs_O a], fun q a b c => by rw [p.2.2 q a, hs_k c, hs_k b]⟩) _ 0 _ (Nat.lt_succ_self _) ⟨by omega, ⟨by rw [hs_k (by decide), hs_k (by decide)]; exact hg.1, fun i hi => by rw [hs_o (by decide), hs_o (by decide), hs_o (by decide), hs_o (by decide)]; exact hg.2 i hi⟩, fun _ _ _ _ => rfl, fun _ _ => rfl⟩
                 · rw [p.2.2 73 (by decide), hs_k (by decide), hs_s, w]
                 · rw [p.2.2 74 (by decide), hs_s, if_pos w])
      · show jT _ _ 100 _ _ _ _
        exfalso; omega
    · show jT _ _ 76 _ _ _ _
      refine tl_aload_n rfl rfl ?_
      show jT _ _ 77 _ _ _ _
      refine tl_getr (c := 12) (k9 := 65) (b := 422) rfl rfl rfl rfl ?_
      refine tl_iload_n rfl rfl ?_
      refine tl_iald (n := 24) rfl rfl rfl (by omega) (by omega) ?_
      rw [Int.toNat_natCast, (ct.2.2.1 k kn).2.2.2.1 (by omega) (by omega)]
      refine tl_aload_n rfl rfl ?_
      refine tl_geti (c := 12) (k9 := 25) rfl rfl rfl ?_
      rw [en]
      refine tl_icmp_gt (tgt := 93) rfl rfl ⟨by omega, by omega⟩ ⟨by omega, by omega⟩ (fun c7 => ?_) (fun c7 => ?_)
      · skip
        refine tl_iconst rfl ?_
        show jT _ _ 94 _ _ _ _
        refine tl_istore_n rfl (Nat.le_of_ble_eq_true rfl) rfl ?_
        refine tl_aload_n rfl rfl ?_
        refine tl_iload_n rfl rfl ?_
        refine tl_if_ne (tgt := 105) rfl rfl ⟨by omega, by omega⟩ (fun c8 => ?_) (fun c8 => ?_)
        · skip
          exfalso; omega
        · show jT _ _ 100 _ _ _ _
          refine tl_bipush rfl rfl ?_
          refine tl_goto (tgt := 122) rfl rfl ?_
          refine tl_puti (c := 12) (k9 := 73) rfl rfl rfl rfl ?_
          show jT _ _ 125 _ _ _ _
          refine tl_aload_n rfl rfl ?_
          refine tl_aload_n rfl rfl ?_
          refine tl_geti (c := 12) (k9 := 73) rfl rfl rfl ?_
          rw [hs_s]
          refine tl_if_ne (tgt := 137) rfl rfl ⟨by omega, by omega⟩ (fun c9 => ?_) (fun c9 => ?_)
          · skip
            refine tl_iload_n rfl rfl ?_
            refine tl_puti (c := 12) (k9 := 74) rfl rfl rfl rfl ?_
            refine tl_iconst rfl ?_
            show jT _ _ 142 _ _ _ _
            refine tl_istore rfl (Nat.le_of_ble_eq_true rfl) rfl ?_
            show jT _ _ 144 _ _ _ _
            -- leaf 4 at 144
            first
              | (exfalso; omega)
              | (have w := wh9_4 (T := T) (R5 := R5) (k := k) (n := n) (by omega)
                 exact r_rs144 l _ T k (-4) _ r1 (by rw [hs_k (by decide), hs_s]) (by decide) P (hP _ ⟨by rw [hs_k (by decide), hs_s, w], by rw [hs_s, w, if_neg (by decide)], fun q => by rw [w] at q; exact absurd q (by decide), fun x a b c => by rw [hs_O a, hs_O a], fun q a b c => by rw [hs_k c, hs_k b]⟩))
              | (have w := wh9_5 (T := T) (R5 := R5) (k := k) (n := n) (by omega) (by omega)
                 exact r_rs144 l _ T k (-5) _ r1 (by rw [hs_k (by decide), hs_s]) (by decide) P (hP _ ⟨by rw [hs_k (by decide), hs_s, w], by rw [hs_s, w, if_neg (by decide)], fun q => by rw [w] at q; exact absurd q (by decide), fun x a b c => by rw [hs_O a, hs_O a], fun q a b c => by rw [hs_k c, hs_k b]⟩))
              | (have w := wh9_0 (T := T) (R5 := R5) (k := k) (n := n) (by omega) (by omega)
                 refine r_rl_lp l (hs (hs h 388 73 (0)) 388 74 (-1)) T SD ns k n g (ct.of ⟨fun x a b c _ _ => by rw [hs_O a, hs_O a], fun q a b c e => by rw [hs_k e, hs_k c]⟩) kn k4n rg9 (by omega) (by omega) (by rw [hs_k (by decide), hs_s]) _ _ (fun mem p => hP mem ⟨?_, ?_, fun _ => p.1, fun x a b c => by rw [p.2.1 x a b c, hs_O a, hs_O a], fun q a b c => by rw [p.2.2 q a, hs_k c, hs_k b]⟩) _ 0 _ (Nat.lt_succ_self _) ⟨by omega, ⟨by rw [hs_k (by decide), hs_k (by decide)]; exact hg.1, fun i hi => by rw [hs_o (by decide), hs_o (by decide), hs_o (by decide), hs_o (by decide)]; exact hg.2 i hi⟩, fun _ _ _ _ => rfl, fun _ _ => rfl⟩
                 · rw [p.2.2 73 (by decide), hs_k (by decide), hs_s, w]
                 · rw [p.2.2 74 (by decide), hs_s, if_pos w])
          · show jT _ _ 133 _ _ _ _
            refine tl_iconst rfl ?_
            refine tl_goto (tgt := 138) rfl rfl ?_
            refine tl_puti (c := 12) (k9 := 74) rfl rfl rfl rfl ?_
            refine tl_iconst rfl ?_
            refine tl_istore rfl (Nat.le_of_ble_eq_true rfl) rfl ?_
            show jT _ _ 144 _ _ _ _
            -- leaf 5 at 144
            first
              | (exfalso; omega)
              | (have w := wh9_4 (T := T) (R5 := R5) (k := k) (n := n) (by omega)
                 exact r_rs144 l _ T k (-4) _ r1 (by rw [hs_k (by decide), hs_s]) (by decide) P (hP _ ⟨by rw [hs_k (by decide), hs_s, w], by rw [hs_s, w, if_neg (by decide)], fun q => by rw [w] at q; exact absurd q (by decide), fun x a b c => by rw [hs_O a, hs_O a], fun q a b c => by rw [hs_k c, hs_k b]⟩))
              | (have w := wh9_5 (T := T) (R5 := R5) (k := k) (n := n) (by omega) (by omega)
                 exact r_rs144 l _ T k (-5) _ r1 (by rw [hs_k (by decide), hs_s]) (by decide) P (hP _ ⟨by rw [hs_k (by decide), hs_s, w], by rw [hs_s, w, if_neg (by decide)], fun q => by rw [w] at q; exact absurd q (by decide), fun x a b c => by rw [hs_O a, hs_O a], fun q a b c => by rw [hs_k c, hs_k b]⟩))
              | (have w := wh9_0 (T := T) (R5 := R5) (k := k) (n := n) (by omega) (by omega)
                 refine r_rl_lp l (hs (hs h 388 73 (0)) 388 74 (-1)) T SD ns k n g (ct.of ⟨fun x a b c _ _ => by rw [hs_O a, hs_O a], fun q a b c e => by rw [hs_k e, hs_k c]⟩) kn k4n rg9 (by omega) (by omega) (by rw [hs_k (by decide), hs_s]) _ _ (fun mem p => hP mem ⟨?_, ?_, fun _ => p.1, fun x a b c => by rw [p.2.1 x a b c, hs_O a, hs_O a], fun q a b c => by rw [p.2.2 q a, hs_k c, hs_k b]⟩) _ 0 _ (Nat.lt_succ_self _) ⟨by omega, ⟨by rw [hs_k (by decide), hs_k (by decide)]; exact hg.1, fun i hi => by rw [hs_o (by decide), hs_o (by decide), hs_o (by decide), hs_o (by decide)]; exact hg.2 i hi⟩, fun _ _ _ _ => rfl, fun _ _ => rfl⟩
                 · rw [p.2.2 73 (by decide), hs_k (by decide), hs_s, w]
                 · rw [p.2.2 74 (by decide), hs_s, if_pos w])
      · show jT _ _ 89 _ _ _ _
        refine tl_iconst rfl ?_
        show jT _ _ 90 _ _ _ _
        refine tl_goto (tgt := 94) rfl rfl ?_
        refine tl_istore_n rfl (Nat.le_of_ble_eq_true rfl) rfl ?_
        refine tl_aload_n rfl rfl ?_
        refine tl_iload_n rfl rfl ?_
        refine tl_if_ne (tgt := 105) rfl rfl ⟨by omega, by omega⟩ (fun c10 => ?_) (fun c10 => ?_)
        · skip
          refine tl_aload_n rfl rfl ?_
          refine tl_geti (c := 12) (k9 := 25) rfl rfl rfl ?_
          rw [en]
          show jT _ _ 109 _ _ _ _
          refine tl_iload_n rfl rfl ?_
          refine tl_iadd rfl ?_
          refine tl_bipush rfl rfl ?_
          refine tl_icmp_le (tgt := 121) rfl rfl ⟨by omega, by omega⟩ ⟨by omega, by omega⟩ (fun c11 => ?_) (fun c11 => ?_)
          · skip
            refine tl_iconst rfl ?_
            refine tl_puti (c := 12) (k9 := 73) rfl rfl rfl rfl ?_
            refine tl_aload_n rfl rfl ?_
            show jT _ _ 126 _ _ _ _
            refine tl_aload_n rfl rfl ?_
            refine tl_geti (c := 12) (k9 := 73) rfl rfl rfl ?_
            rw [hs_s]
            refine tl_if_ne (tgt := 137) rfl rfl ⟨by omega, by omega⟩ (fun c12 => ?_) (fun c12 => ?_)
            · skip
              refine tl_iload_n rfl rfl ?_
              refine tl_puti (c := 12) (k9 := 74) rfl rfl rfl rfl ?_
              refine tl_iconst rfl ?_
              refine tl_istore rfl (Nat.le_of_ble_eq_true rfl) rfl ?_
              show jT _ _ 144 _ _ _ _
              -- leaf 6 at 144
              first
                | (exfalso; omega)
                | (have w := wh9_4 (T := T) (R5 := R5) (k := k) (n := n) (by omega)
                   exact r_rs144 l _ T k (-4) _ r1 (by rw [hs_k (by decide), hs_s]) (by decide) P (hP _ ⟨by rw [hs_k (by decide), hs_s, w], by rw [hs_s, w, if_neg (by decide)], fun q => by rw [w] at q; exact absurd q (by decide), fun x a b c => by rw [hs_O a, hs_O a], fun q a b c => by rw [hs_k c, hs_k b]⟩))
                | (have w := wh9_5 (T := T) (R5 := R5) (k := k) (n := n) (by omega) (by omega)
                   exact r_rs144 l _ T k (-5) _ r1 (by rw [hs_k (by decide), hs_s]) (by decide) P (hP _ ⟨by rw [hs_k (by decide), hs_s, w], by rw [hs_s, w, if_neg (by decide)], fun q => by rw [w] at q; exact absurd q (by decide), fun x a b c => by rw [hs_O a, hs_O a], fun q a b c => by rw [hs_k c, hs_k b]⟩))
                | (have w := wh9_0 (T := T) (R5 := R5) (k := k) (n := n) (by omega) (by omega)
                   refine r_rl_lp l (hs (hs h 388 73 (0)) 388 74 (-1)) T SD ns k n g (ct.of ⟨fun x a b c _ _ => by rw [hs_O a, hs_O a], fun q a b c e => by rw [hs_k e, hs_k c]⟩) kn k4n rg9 (by omega) (by omega) (by rw [hs_k (by decide), hs_s]) _ _ (fun mem p => hP mem ⟨?_, ?_, fun _ => p.1, fun x a b c => by rw [p.2.1 x a b c, hs_O a, hs_O a], fun q a b c => by rw [p.2.2 q a, hs_k c, hs_k b]⟩) _ 0 _ (Nat.lt_succ_self _) ⟨by omega, ⟨by rw [hs_k (by decide), hs_k (by decide)]; exact hg.1, fun i hi => by rw [hs_o (by decide), hs_o (by decide), hs_o (by decide), hs_o (by decide)]; exact hg.2 i hi⟩, fun _ _ _ _ => rfl, fun _ _ => rfl⟩
                   · rw [p.2.2 73 (by decide), hs_k (by decide), hs_s, w]
                   · rw [p.2.2 74 (by decide), hs_s, if_pos w])
            · show jT _ _ 133 _ _ _ _
              show jT _ _ 133 _ _ _ _
              refine tl_iconst rfl ?_
              refine tl_goto (tgt := 138) rfl rfl ?_
              refine tl_puti (c := 12) (k9 := 74) rfl rfl rfl rfl ?_
              refine tl_iconst rfl ?_
              refine tl_istore rfl (Nat.le_of_ble_eq_true rfl) rfl ?_
              show jT _ _ 144 _ _ _ _
              -- leaf 7 at 144
              first
                | (exfalso; omega)
                | (have w := wh9_4 (T := T) (R5 := R5) (k := k) (n := n) (by omega)
                   exact r_rs144 l _ T k (-4) _ r1 (by rw [hs_k (by decide), hs_s]) (by decide) P (hP _ ⟨by rw [hs_k (by decide), hs_s, w], by rw [hs_s, w, if_neg (by decide)], fun q => by rw [w] at q; exact absurd q (by decide), fun x a b c => by rw [hs_O a, hs_O a], fun q a b c => by rw [hs_k c, hs_k b]⟩))
                | (have w := wh9_5 (T := T) (R5 := R5) (k := k) (n := n) (by omega) (by omega)
                   exact r_rs144 l _ T k (-5) _ r1 (by rw [hs_k (by decide), hs_s]) (by decide) P (hP _ ⟨by rw [hs_k (by decide), hs_s, w], by rw [hs_s, w, if_neg (by decide)], fun q => by rw [w] at q; exact absurd q (by decide), fun x a b c => by rw [hs_O a, hs_O a], fun q a b c => by rw [hs_k c, hs_k b]⟩))
                | (have w := wh9_0 (T := T) (R5 := R5) (k := k) (n := n) (by omega) (by omega)
                   refine r_rl_lp l (hs (hs h 388 73 (0)) 388 74 (-1)) T SD ns k n g (ct.of ⟨fun x a b c _ _ => by rw [hs_O a, hs_O a], fun q a b c e => by rw [hs_k e, hs_k c]⟩) kn k4n rg9 (by omega) (by omega) (by rw [hs_k (by decide), hs_s]) _ _ (fun mem p => hP mem ⟨?_, ?_, fun _ => p.1, fun x a b c => by rw [p.2.1 x a b c, hs_O a, hs_O a], fun q a b c => by rw [p.2.2 q a, hs_k c, hs_k b]⟩) _ 0 _ (Nat.lt_succ_self _) ⟨by omega, ⟨by rw [hs_k (by decide), hs_k (by decide)]; exact hg.1, fun i hi => by rw [hs_o (by decide), hs_o (by decide), hs_o (by decide), hs_o (by decide)]; exact hg.2 i hi⟩, fun _ _ _ _ => rfl, fun _ _ => rfl⟩
                   · rw [p.2.2 73 (by decide), hs_k (by decide), hs_s, w]
                   · rw [p.2.2 74 (by decide), hs_s, if_pos w])
          · show jT _ _ 116 _ _ _ _
            refine tl_bipush rfl rfl ?_
            refine tl_goto (tgt := 122) rfl rfl ?_
            show jT _ _ 122 _ _ _ _
            refine tl_puti (c := 12) (k9 := 73) rfl rfl rfl rfl ?_
            refine tl_aload_n rfl rfl ?_
            refine tl_aload_n rfl rfl ?_
            refine tl_geti (c := 12) (k9 := 73) rfl rfl rfl ?_
            rw [hs_s]
            refine tl_if_ne (tgt := 137) rfl rfl ⟨by omega, by omega⟩ (fun c13 => ?_) (fun c13 => ?_)
            · skip
              refine tl_iload_n rfl rfl ?_
              refine tl_puti (c := 12) (k9 := 74) rfl rfl rfl rfl ?_
              show jT _ _ 141 _ _ _ _
              refine tl_iconst rfl ?_
              refine tl_istore rfl (Nat.le_of_ble_eq_true rfl) rfl ?_
              show jT _ _ 144 _ _ _ _
              -- leaf 8 at 144
              first
                | (exfalso; omega)
                | (have w := wh9_4 (T := T) (R5 := R5) (k := k) (n := n) (by omega)
                   exact r_rs144 l _ T k (-4) _ r1 (by rw [hs_k (by decide), hs_s]) (by decide) P (hP _ ⟨by rw [hs_k (by decide), hs_s, w], by rw [hs_s, w, if_neg (by decide)], fun q => by rw [w] at q; exact absurd q (by decide), fun x a b c => by rw [hs_O a, hs_O a], fun q a b c => by rw [hs_k c, hs_k b]⟩))
                | (have w := wh9_5 (T := T) (R5 := R5) (k := k) (n := n) (by omega) (by omega)
                   exact r_rs144 l _ T k (-5) _ r1 (by rw [hs_k (by decide), hs_s]) (by decide) P (hP _ ⟨by rw [hs_k (by decide), hs_s, w], by rw [hs_s, w, if_neg (by decide)], fun q => by rw [w] at q; exact absurd q (by decide), fun x a b c => by rw [hs_O a, hs_O a], fun q a b c => by rw [hs_k c, hs_k b]⟩))
                | (have w := wh9_0 (T := T) (R5 := R5) (k := k) (n := n) (by omega) (by omega)
                   refine r_rl_lp l (hs (hs h 388 73 (0)) 388 74 (-1)) T SD ns k n g (ct.of ⟨fun x a b c _ _ => by rw [hs_O a, hs_O a], fun q a b c e => by rw [hs_k e, hs_k c]⟩) kn k4n rg9 (by omega) (by omega) (by rw [hs_k (by decide), hs_s]) _ _ (fun mem p => hP mem ⟨?_, ?_, fun _ => p.1, fun x a b c => by rw [p.2.1 x a b c, hs_O a, hs_O a], fun q a b c => by rw [p.2.2 q a, hs_k c, hs_k b]⟩) _ 0 _ (Nat.lt_succ_self _) ⟨by omega, ⟨by rw [hs_k (by decide), hs_k (by decide)]; exact hg.1, fun i hi => by rw [hs_o (by decide), hs_o (by decide), hs_o (by decide), hs_o (by decide)]; exact hg.2 i hi⟩, fun _ _ _ _ => rfl, fun _ _ => rfl⟩
                   · rw [p.2.2 73 (by decide), hs_k (by decide), hs_s, w]
                   · rw [p.2.2 74 (by decide), hs_s, if_pos w])
            · show jT _ _ 133 _ _ _ _
              refine tl_iconst rfl ?_
              refine tl_goto (tgt := 138) rfl rfl ?_
              refine tl_puti (c := 12) (k9 := 74) rfl rfl rfl rfl ?_
              refine tl_iconst rfl ?_
              refine tl_istore rfl (Nat.le_of_ble_eq_true rfl) rfl ?_
              show jT _ _ 144 _ _ _ _
              -- leaf 9 at 144
              first
                | (exfalso; omega)
                | (have w := wh9_4 (T := T) (R5 := R5) (k := k) (n := n) (by omega)
                   exact r_rs144 l _ T k (-4) _ r1 (by rw [hs_k (by decide), hs_s]) (by decide) P (hP _ ⟨by rw [hs_k (by decide), hs_s, w], by rw [hs_s, w, if_neg (by decide)], fun q => by rw [w] at q; exact absurd q (by decide), fun x a b c => by rw [hs_O a, hs_O a], fun q a b c => by rw [hs_k c, hs_k b]⟩))
                | (have w := wh9_5 (T := T) (R5 := R5) (k := k) (n := n) (by omega) (by omega)
                   exact r_rs144 l _ T k (-5) _ r1 (by rw [hs_k (by decide), hs_s]) (by decide) P (hP _ ⟨by rw [hs_k (by decide), hs_s, w], by rw [hs_s, w, if_neg (by decide)], fun q => by rw [w] at q; exact absurd q (by decide), fun x a b c => by rw [hs_O a, hs_O a], fun q a b c => by rw [hs_k c, hs_k b]⟩))
                | (have w := wh9_0 (T := T) (R5 := R5) (k := k) (n := n) (by omega) (by omega)
                   refine r_rl_lp l (hs (hs h 388 73 (0)) 388 74 (-1)) T SD ns k n g (ct.of ⟨fun x a b c _ _ => by rw [hs_O a, hs_O a], fun q a b c e => by rw [hs_k e, hs_k c]⟩) kn k4n rg9 (by omega) (by omega) (by rw [hs_k (by decide), hs_s]) _ _ (fun mem p => hP mem ⟨?_, ?_, fun _ => p.1, fun x a b c => by rw [p.2.1 x a b c, hs_O a, hs_O a], fun q a b c => by rw [p.2.2 q a, hs_k c, hs_k b]⟩) _ 0 _ (Nat.lt_succ_self _) ⟨by omega, ⟨by rw [hs_k (by decide), hs_k (by decide)]; exact hg.1, fun i hi => by rw [hs_o (by decide), hs_o (by decide), hs_o (by decide), hs_o (by decide)]; exact hg.2 i hi⟩, fun _ _ _ _ => rfl, fun _ _ => rfl⟩
                   · rw [p.2.2 73 (by decide), hs_k (by decide), hs_s, w]
                   · rw [p.2.2 74 (by decide), hs_s, if_pos w])
        · show jT _ _ 100 _ _ _ _
          exfalso; omega
  · show jT _ _ 42 _ _ _ _
    show jT _ _ 42 _ _ _ _
    refine tl_aload_n rfl rfl ?_
    refine tl_getr (c := 12) (k9 := 65) (b := 422) rfl rfl rfl rfl ?_
    refine tl_iload_n rfl rfl ?_
    refine tl_iald (n := 24) rfl rfl rfl (by omega) (by omega) ?_
    rw [Int.toNat_natCast, (ct.2.2.1 k kn).2.2.2.1 (by omega) (by omega)]
    refine tl_iload_n rfl rfl ?_
    refine tl_iadd rfl ?_
    refine tl_aload_n rfl rfl ?_
    show jT _ _ 51 _ _ _ _
    refine tl_iconst rfl ?_
    refine tl_v1i (c9 := 12) (c_sizeOf l _ 0 (by decide) (by decide)) rfl rfl rfl rfl rfl (Nat.le_of_ble_eq_true rfl) (fun z1 h1 p1 => ?_)
    obtain ⟨q1, rfl⟩ := p1
    have q1 := q1.symm
    subst q1
    rw [show (5 + 65 * 0 : Int).toNat = 5 from rfl, e5]
    refine tl_icmp_gt (tgt := 62) rfl rfl ⟨by omega, by omega⟩ ⟨by omega, by omega⟩ (fun c14 => ?_) (fun c14 => ?_)
    · skip
      refine tl_iconst rfl ?_
      refine tl_goto (tgt := 94) rfl rfl ?_
      refine tl_istore_n rfl (Nat.le_of_ble_eq_true rfl) rfl ?_
      refine tl_aload_n rfl rfl ?_
      show jT _ _ 96 _ _ _ _
      refine tl_iload_n rfl rfl ?_
      refine tl_if_ne (tgt := 105) rfl rfl ⟨by omega, by omega⟩ (fun c15 => ?_) (fun c15 => ?_)
      · skip
        exfalso; omega
      · show jT _ _ 100 _ _ _ _
        refine tl_bipush rfl rfl ?_
        refine tl_goto (tgt := 122) rfl rfl ?_
        refine tl_puti (c := 12) (k9 := 73) rfl rfl rfl rfl ?_
        refine tl_aload_n rfl rfl ?_
        refine tl_aload_n rfl rfl ?_
        show jT _ _ 127 _ _ _ _
        refine tl_geti (c := 12) (k9 := 73) rfl rfl rfl ?_
        rw [hs_s]
        refine tl_if_ne (tgt := 137) rfl rfl ⟨by omega, by omega⟩ (fun c16 => ?_) (fun c16 => ?_)
        · skip
          refine tl_iload_n rfl rfl ?_
          refine tl_puti (c := 12) (k9 := 74) rfl rfl rfl rfl ?_
          refine tl_iconst rfl ?_
          refine tl_istore rfl (Nat.le_of_ble_eq_true rfl) rfl ?_
          show jT _ _ 144 _ _ _ _
          -- leaf 10 at 144
          first
            | (exfalso; omega)
            | (have w := wh9_4 (T := T) (R5 := R5) (k := k) (n := n) (by omega)
               exact r_rs144 l _ T k (-4) _ r1 (by rw [hs_k (by decide), hs_s]) (by decide) P (hP _ ⟨by rw [hs_k (by decide), hs_s, w], by rw [hs_s, w, if_neg (by decide)], fun q => by rw [w] at q; exact absurd q (by decide), fun x a b c => by rw [hs_O a, hs_O a], fun q a b c => by rw [hs_k c, hs_k b]⟩))
            | (have w := wh9_5 (T := T) (R5 := R5) (k := k) (n := n) (by omega) (by omega)
               exact r_rs144 l _ T k (-5) _ r1 (by rw [hs_k (by decide), hs_s]) (by decide) P (hP _ ⟨by rw [hs_k (by decide), hs_s, w], by rw [hs_s, w, if_neg (by decide)], fun q => by rw [w] at q; exact absurd q (by decide), fun x a b c => by rw [hs_O a, hs_O a], fun q a b c => by rw [hs_k c, hs_k b]⟩))
            | (have w := wh9_0 (T := T) (R5 := R5) (k := k) (n := n) (by omega) (by omega)
               refine r_rl_lp l (hs (hs h 388 73 (0)) 388 74 (-1)) T SD ns k n g (ct.of ⟨fun x a b c _ _ => by rw [hs_O a, hs_O a], fun q a b c e => by rw [hs_k e, hs_k c]⟩) kn k4n rg9 (by omega) (by omega) (by rw [hs_k (by decide), hs_s]) _ _ (fun mem p => hP mem ⟨?_, ?_, fun _ => p.1, fun x a b c => by rw [p.2.1 x a b c, hs_O a, hs_O a], fun q a b c => by rw [p.2.2 q a, hs_k c, hs_k b]⟩) _ 0 _ (Nat.lt_succ_self _) ⟨by omega, ⟨by rw [hs_k (by decide), hs_k (by decide)]; exact hg.1, fun i hi => by rw [hs_o (by decide), hs_o (by decide), hs_o (by decide), hs_o (by decide)]; exact hg.2 i hi⟩, fun _ _ _ _ => rfl, fun _ _ => rfl⟩
               · rw [p.2.2 73 (by decide), hs_k (by decide), hs_s, w]
               · rw [p.2.2 74 (by decide), hs_s, if_pos w])
        · show jT _ _ 133 _ _ _ _
          refine tl_iconst rfl ?_
          show jT _ _ 134 _ _ _ _
          refine tl_goto (tgt := 138) rfl rfl ?_
          refine tl_puti (c := 12) (k9 := 74) rfl rfl rfl rfl ?_
          refine tl_iconst rfl ?_
          refine tl_istore rfl (Nat.le_of_ble_eq_true rfl) rfl ?_
          show jT _ _ 144 _ _ _ _
          -- leaf 11 at 144
          first
            | (exfalso; omega)
            | (have w := wh9_4 (T := T) (R5 := R5) (k := k) (n := n) (by omega)
               exact r_rs144 l _ T k (-4) _ r1 (by rw [hs_k (by decide), hs_s]) (by decide) P (hP _ ⟨by rw [hs_k (by decide), hs_s, w], by rw [hs_s, w, if_neg (by decide)], fun q => by rw [w] at q; exact absurd q (by decide), fun x a b c => by rw [hs_O a, hs_O a], fun q a b c => by rw [hs_k c, hs_k b]⟩))
            | (have w := wh9_5 (T := T) (R5 := R5) (k := k) (n := n) (by omega) (by omega)
               exact r_rs144 l _ T k (-5) _ r1 (by rw [hs_k (by decide), hs_s]) (by decide) P (hP _ ⟨by rw [hs_k (by decide), hs_s, w], by rw [hs_s, w, if_neg (by decide)], fun q => by rw [w] at q; exact absurd q (by decide), fun x a b c => by rw [hs_O a, hs_O a], fun q a b c => by rw [hs_k c, hs_k b]⟩))
            | (have w := wh9_0 (T := T) (R5 := R5) (k := k) (n := n) (by omega) (by omega)
               refine r_rl_lp l (hs (hs h 388 73 (0)) 388 74 (-1)) T SD ns k n g (ct.of ⟨fun x a b c _ _ => by rw [hs_O a, hs_O a], fun q a b c e => by rw [hs_k e, hs_k c]⟩) kn k4n rg9 (by omega) (by omega) (by rw [hs_k (by decide), hs_s]) _ _ (fun mem p => hP mem ⟨?_, ?_, fun _ => p.1, fun x a b c => by rw [p.2.1 x a b c, hs_O a, hs_O a], fun q a b c => by rw [p.2.2 q a, hs_k c, hs_k b]⟩) _ 0 _ (Nat.lt_succ_self _) ⟨by omega, ⟨by rw [hs_k (by decide), hs_k (by decide)]; exact hg.1, fun i hi => by rw [hs_o (by decide), hs_o (by decide), hs_o (by decide), hs_o (by decide)]; exact hg.2 i hi⟩, fun _ _ _ _ => rfl, fun _ _ => rfl⟩
               · rw [p.2.2 73 (by decide), hs_k (by decide), hs_s, w]
               · rw [p.2.2 74 (by decide), hs_s, if_pos w])
    · show jT _ _ 58 _ _ _ _
      refine tl_iconst rfl ?_
      refine tl_goto (tgt := 94) rfl rfl ?_
      refine tl_istore_n rfl (Nat.le_of_ble_eq_true rfl) rfl ?_
      show jT _ _ 95 _ _ _ _
      refine tl_aload_n rfl rfl ?_
      refine tl_iload_n rfl rfl ?_
      refine tl_if_ne (tgt := 105) rfl rfl ⟨by omega, by omega⟩ (fun c17 => ?_) (fun c17 => ?_)
      · skip
        refine tl_aload_n rfl rfl ?_
        refine tl_geti (c := 12) (k9 := 25) rfl rfl rfl ?_
        rw [en]
        refine tl_iload_n rfl rfl ?_
        refine tl_iadd rfl ?_
        show jT _ _ 111 _ _ _ _
        refine tl_bipush rfl rfl ?_
        refine tl_icmp_le (tgt := 121) rfl rfl ⟨by omega, by omega⟩ ⟨by omega, by omega⟩ (fun c18 => ?_) (fun c18 => ?_)
        · skip
          refine tl_iconst rfl ?_
          refine tl_puti (c := 12) (k9 := 73) rfl rfl rfl rfl ?_
          refine tl_aload_n rfl rfl ?_
          refine tl_aload_n rfl rfl ?_
          refine tl_geti (c := 12) (k9 := 73) rfl rfl rfl ?_
          rw [hs_s]
          show jT _ _ 130 _ _ _ _
          refine tl_if_ne (tgt := 137) rfl rfl ⟨by omega, by omega⟩ (fun c19 => ?_) (fun c19 => ?_)
          · skip
            refine tl_iload_n rfl rfl ?_
            refine tl_puti (c := 12) (k9 := 74) rfl rfl rfl rfl ?_
            refine tl_iconst rfl ?_
            refine tl_istore rfl (Nat.le_of_ble_eq_true rfl) rfl ?_
            show jT _ _ 144 _ _ _ _
            -- leaf 12 at 144
            first
              | (exfalso; omega)
              | (have w := wh9_4 (T := T) (R5 := R5) (k := k) (n := n) (by omega)
                 exact r_rs144 l _ T k (-4) _ r1 (by rw [hs_k (by decide), hs_s]) (by decide) P (hP _ ⟨by rw [hs_k (by decide), hs_s, w], by rw [hs_s, w, if_neg (by decide)], fun q => by rw [w] at q; exact absurd q (by decide), fun x a b c => by rw [hs_O a, hs_O a], fun q a b c => by rw [hs_k c, hs_k b]⟩))
              | (have w := wh9_5 (T := T) (R5 := R5) (k := k) (n := n) (by omega) (by omega)
                 exact r_rs144 l _ T k (-5) _ r1 (by rw [hs_k (by decide), hs_s]) (by decide) P (hP _ ⟨by rw [hs_k (by decide), hs_s, w], by rw [hs_s, w, if_neg (by decide)], fun q => by rw [w] at q; exact absurd q (by decide), fun x a b c => by rw [hs_O a, hs_O a], fun q a b c => by rw [hs_k c, hs_k b]⟩))
              | (have w := wh9_0 (T := T) (R5 := R5) (k := k) (n := n) (by omega) (by omega)
                 refine r_rl_lp l (hs (hs h 388 73 (0)) 388 74 (-1)) T SD ns k n g (ct.of ⟨fun x a b c _ _ => by rw [hs_O a, hs_O a], fun q a b c e => by rw [hs_k e, hs_k c]⟩) kn k4n rg9 (by omega) (by omega) (by rw [hs_k (by decide), hs_s]) _ _ (fun mem p => hP mem ⟨?_, ?_, fun _ => p.1, fun x a b c => by rw [p.2.1 x a b c, hs_O a, hs_O a], fun q a b c => by rw [p.2.2 q a, hs_k c, hs_k b]⟩) _ 0 _ (Nat.lt_succ_self _) ⟨by omega, ⟨by rw [hs_k (by decide), hs_k (by decide)]; exact hg.1, fun i hi => by rw [hs_o (by decide), hs_o (by decide), hs_o (by decide), hs_o (by decide)]; exact hg.2 i hi⟩, fun _ _ _ _ => rfl, fun _ _ => rfl⟩
                 · rw [p.2.2 73 (by decide), hs_k (by decide), hs_s, w]
                 · rw [p.2.2 74 (by decide), hs_s, if_pos w])
          · show jT _ _ 133 _ _ _ _
            refine tl_iconst rfl ?_
            refine tl_goto (tgt := 138) rfl rfl ?_
            show jT _ _ 138 _ _ _ _
            refine tl_puti (c := 12) (k9 := 74) rfl rfl rfl rfl ?_
            refine tl_iconst rfl ?_
            refine tl_istore rfl (Nat.le_of_ble_eq_true rfl) rfl ?_
            show jT _ _ 144 _ _ _ _
            -- leaf 13 at 144
            first
              | (exfalso; omega)
              | (have w := wh9_4 (T := T) (R5 := R5) (k := k) (n := n) (by omega)
                 exact r_rs144 l _ T k (-4) _ r1 (by rw [hs_k (by decide), hs_s]) (by decide) P (hP _ ⟨by rw [hs_k (by decide), hs_s, w], by rw [hs_s, w, if_neg (by decide)], fun q => by rw [w] at q; exact absurd q (by decide), fun x a b c => by rw [hs_O a, hs_O a], fun q a b c => by rw [hs_k c, hs_k b]⟩))
              | (have w := wh9_5 (T := T) (R5 := R5) (k := k) (n := n) (by omega) (by omega)
                 exact r_rs144 l _ T k (-5) _ r1 (by rw [hs_k (by decide), hs_s]) (by decide) P (hP _ ⟨by rw [hs_k (by decide), hs_s, w], by rw [hs_s, w, if_neg (by decide)], fun q => by rw [w] at q; exact absurd q (by decide), fun x a b c => by rw [hs_O a, hs_O a], fun q a b c => by rw [hs_k c, hs_k b]⟩))
              | (have w := wh9_0 (T := T) (R5 := R5) (k := k) (n := n) (by omega) (by omega)
                 refine r_rl_lp l (hs (hs h 388 73 (0)) 388 74 (-1)) T SD ns k n g (ct.of ⟨fun x a b c _ _ => by rw [hs_O a, hs_O a], fun q a b c e => by rw [hs_k e, hs_k c]⟩) kn k4n rg9 (by omega) (by omega) (by rw [hs_k (by decide), hs_s]) _ _ (fun mem p => hP mem ⟨?_, ?_, fun _ => p.1, fun x a b c => by rw [p.2.1 x a b c, hs_O a, hs_O a], fun q a b c => by rw [p.2.2 q a, hs_k c, hs_k b]⟩) _ 0 _ (Nat.lt_succ_self _) ⟨by omega, ⟨by rw [hs_k (by decide), hs_k (by decide)]; exact hg.1, fun i hi => by rw [hs_o (by decide), hs_o (by decide), hs_o (by decide), hs_o (by decide)]; exact hg.2 i hi⟩, fun _ _ _ _ => rfl, fun _ _ => rfl⟩
                 · rw [p.2.2 73 (by decide), hs_k (by decide), hs_s, w]
                 · rw [p.2.2 74 (by decide), hs_s, if_pos w])
        · show jT _ _ 116 _ _ _ _
          refine tl_bipush rfl rfl ?_
          refine tl_goto (tgt := 122) rfl rfl ?_
          refine tl_puti (c := 12) (k9 := 73) rfl rfl rfl rfl ?_
          refine tl_aload_n rfl rfl ?_
          show jT _ _ 126 _ _ _ _
          refine tl_aload_n rfl rfl ?_
          refine tl_geti (c := 12) (k9 := 73) rfl rfl rfl ?_
          rw [hs_s]
          refine tl_if_ne (tgt := 137) rfl rfl ⟨by omega, by omega⟩ (fun c20 => ?_) (fun c20 => ?_)
          · skip
            refine tl_iload_n rfl rfl ?_
            refine tl_puti (c := 12) (k9 := 74) rfl rfl rfl rfl ?_
            refine tl_iconst rfl ?_
            refine tl_istore rfl (Nat.le_of_ble_eq_true rfl) rfl ?_
            show jT _ _ 144 _ _ _ _
            -- leaf 14 at 144
            first
              | (exfalso; omega)
              | (have w := wh9_4 (T := T) (R5 := R5) (k := k) (n := n) (by omega)
                 exact r_rs144 l _ T k (-4) _ r1 (by rw [hs_k (by decide), hs_s]) (by decide) P (hP _ ⟨by rw [hs_k (by decide), hs_s, w], by rw [hs_s, w, if_neg (by decide)], fun q => by rw [w] at q; exact absurd q (by decide), fun x a b c => by rw [hs_O a, hs_O a], fun q a b c => by rw [hs_k c, hs_k b]⟩))
              | (have w := wh9_5 (T := T) (R5 := R5) (k := k) (n := n) (by omega) (by omega)
                 exact r_rs144 l _ T k (-5) _ r1 (by rw [hs_k (by decide), hs_s]) (by decide) P (hP _ ⟨by rw [hs_k (by decide), hs_s, w], by rw [hs_s, w, if_neg (by decide)], fun q => by rw [w] at q; exact absurd q (by decide), fun x a b c => by rw [hs_O a, hs_O a], fun q a b c => by rw [hs_k c, hs_k b]⟩))
              | (have w := wh9_0 (T := T) (R5 := R5) (k := k) (n := n) (by omega) (by omega)
                 refine r_rl_lp l (hs (hs h 388 73 (0)) 388 74 (-1)) T SD ns k n g (ct.of ⟨fun x a b c _ _ => by rw [hs_O a, hs_O a], fun q a b c e => by rw [hs_k e, hs_k c]⟩) kn k4n rg9 (by omega) (by omega) (by rw [hs_k (by decide), hs_s]) _ _ (fun mem p => hP mem ⟨?_, ?_, fun _ => p.1, fun x a b c => by rw [p.2.1 x a b c, hs_O a, hs_O a], fun q a b c => by rw [p.2.2 q a, hs_k c, hs_k b]⟩) _ 0 _ (Nat.lt_succ_self _) ⟨by omega, ⟨by rw [hs_k (by decide), hs_k (by decide)]; exact hg.1, fun i hi => by rw [hs_o (by decide), hs_o (by decide), hs_o (by decide), hs_o (by decide)]; exact hg.2 i hi⟩, fun _ _ _ _ => rfl, fun _ _ => rfl⟩
                 · rw [p.2.2 73 (by decide), hs_k (by decide), hs_s, w]
                 · rw [p.2.2 74 (by decide), hs_s, if_pos w])
          · show jT _ _ 133 _ _ _ _
            show jT _ _ 133 _ _ _ _
            refine tl_iconst rfl ?_
            refine tl_goto (tgt := 138) rfl rfl ?_
            refine tl_puti (c := 12) (k9 := 74) rfl rfl rfl rfl ?_
            refine tl_iconst rfl ?_
            refine tl_istore rfl (Nat.le_of_ble_eq_true rfl) rfl ?_
            show jT _ _ 144 _ _ _ _
            -- leaf 15 at 144
            first
              | (exfalso; omega)
              | (have w := wh9_4 (T := T) (R5 := R5) (k := k) (n := n) (by omega)
                 exact r_rs144 l _ T k (-4) _ r1 (by rw [hs_k (by decide), hs_s]) (by decide) P (hP _ ⟨by rw [hs_k (by decide), hs_s, w], by rw [hs_s, w, if_neg (by decide)], fun q => by rw [w] at q; exact absurd q (by decide), fun x a b c => by rw [hs_O a, hs_O a], fun q a b c => by rw [hs_k c, hs_k b]⟩))
              | (have w := wh9_5 (T := T) (R5 := R5) (k := k) (n := n) (by omega) (by omega)
                 exact r_rs144 l _ T k (-5) _ r1 (by rw [hs_k (by decide), hs_s]) (by decide) P (hP _ ⟨by rw [hs_k (by decide), hs_s, w], by rw [hs_s, w, if_neg (by decide)], fun q => by rw [w] at q; exact absurd q (by decide), fun x a b c => by rw [hs_O a, hs_O a], fun q a b c => by rw [hs_k c, hs_k b]⟩))
              | (have w := wh9_0 (T := T) (R5 := R5) (k := k) (n := n) (by omega) (by omega)
                 refine r_rl_lp l (hs (hs h 388 73 (0)) 388 74 (-1)) T SD ns k n g (ct.of ⟨fun x a b c _ _ => by rw [hs_O a, hs_O a], fun q a b c e => by rw [hs_k e, hs_k c]⟩) kn k4n rg9 (by omega) (by omega) (by rw [hs_k (by decide), hs_s]) _ _ (fun mem p => hP mem ⟨?_, ?_, fun _ => p.1, fun x a b c => by rw [p.2.1 x a b c, hs_O a, hs_O a], fun q a b c => by rw [p.2.2 q a, hs_k c, hs_k b]⟩) _ 0 _ (Nat.lt_succ_self _) ⟨by omega, ⟨by rw [hs_k (by decide), hs_k (by decide)]; exact hg.1, fun i hi => by rw [hs_o (by decide), hs_o (by decide), hs_o (by decide), hs_o (by decide)]; exact hg.2 i hi⟩, fun _ _ _ _ => rfl, fun _ _ => rfl⟩
                 · rw [p.2.2 73 (by decide), hs_k (by decide), hs_s, w]
                 · rw [p.2.2 74 (by decide), hs_s, if_pos w])
      · show jT _ _ 100 _ _ _ _
        exfalso; omega
set_option maxRecDepth 20000 in
set_option maxHeartbeats 1000000 in
theorem r_runStep (l : Launch) (h T : jH) (SD : List Int) (ns k n : Nat) (g : jH) (ct : RTb h T SD ns) (kn : k < ns) (k4n : T 0 k ≠ 4) (rg9 : RNG T k SD.length) (n64 : n ≤ 64) (hg : OGR h g n) (R5 : Int) (e5 : h 390 5 = R5) (r50 : 0 ≤ R5) (r51 : R5 ≤ 64) : cV l 330 [.ref 388, .int (jI (k : Int))] h (fun h' => (h' 388 73 = wh9 T R5 k n ∧ h' 388 74 = (if wh9 T R5 k n = 0 then -1 else (k : Int)) ∧ (wh9 T R5 k n = 0 → OGR h' (gA T SD k g n (T 1 k).toNat) (n + (T 1 k).toNat)) ∧ (∀ x, x ≠ 388 → x ≠ 403 → x ≠ 404 → h' x = h x) ∧ ∀ q, q ≠ 25 → q ≠ 73 → q ≠ 74 → h' 388 q = h 388 q)) := by
  have n24 := ct.2.1
  have r0 := rg9.a9.1
  have r1 := rg9.a9.2
  refine cV.of rfl rfl ?_
  refine tl_aload_n rfl rfl ?_
  refine tl_getr (c := 12) (k9 := 63) (b := 420) rfl rfl rfl rfl ?_
  refine tl_iload_n rfl rfl ?_
  refine tl_iald (n := 24) rfl rfl rfl (by omega) (by omega) ?_
  rw [Int.toNat_natCast, (ct.2.2.1 k kn).1]
  refine tl_iconst rfl ?_
  refine tl_icmp_ne (tgt := 26) rfl rfl ⟨by omega, by omega⟩ ⟨by omega, by omega⟩ (fun c1 => ?_) (fun c1 => ?_)
  · skip
    show jT _ _ 26 _ _ _ _
    refine tl_aload_n rfl rfl ?_
    refine tl_getr (c := 12) (k9 := 64) (b := 421) rfl rfl rfl rfl ?_
    refine tl_iload_n rfl rfl ?_
    refine tl_iald (n := 24) rfl rfl rfl (by omega) (by omega) ?_
    rw [Int.toNat_natCast, (ct.2.2.1 k kn).2.1 (by omega)]
    refine tl_istore_n rfl (Nat.le_of_ble_eq_true rfl) rfl ?_
    show jT _ _ 33 _ _ _ _
    -- leaf 0 at 33
    exact r_rs33 l h T SD ns k n g ct kn k4n rg9 n64 hg R5 e5 r50 r51 _ (fun h' p => ⟨rfl, p⟩)
  · show jT _ _ 10 _ _ _ _
    refine tl_aload_n rfl rfl ?_
    refine tl_getr (c := 12) (k9 := 65) (b := 422) rfl rfl rfl rfl ?_
    show jT _ _ 14 _ _ _ _
    refine tl_iload_n rfl rfl ?_
    refine tl_iald (n := 24) rfl rfl rfl (by omega) (by omega) ?_
    rw [Int.toNat_natCast, ((ct.2.2.1 k kn).2.2.1 (by omega)).2]
    refine tl_aload_n rfl rfl ?_
    refine tl_getr (c := 12) (k9 := 64) (b := 421) rfl rfl rfl rfl ?_
    refine tl_iload_n rfl rfl ?_
    refine tl_iald (n := 24) rfl rfl rfl (by omega) (by omega) ?_
    rw [Int.toNat_natCast, ((ct.2.2.1 k kn).2.2.1 (by omega)).1]
    refine tl_isub rfl ?_
    rw [show T 2 k + T 1 k - T 2 k = T 1 k by omega]
    show jT _ _ 23 _ _ _ _
    refine tl_goto (tgt := 32) rfl rfl ?_
    refine tl_istore_n rfl (Nat.le_of_ble_eq_true rfl) rfl ?_
    show jT _ _ 33 _ _ _ _
    -- leaf 1 at 33
    exact r_rs33 l h T SD ns k n g ct kn k4n rg9 n64 hg R5 e5 r50 r51 _ (fun h' p => ⟨rfl, p⟩)
