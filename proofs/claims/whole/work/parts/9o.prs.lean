/-! recipes: brackets closed; one round of reading -/
section RR
variable (B : Nat → Int) (N : Nat)
/-- rows of T: 0 kinds, 1 many, 2 what, 3 by, 4 over, 5 open -/
def cb9 (ns : Nat) : Nat → Nat → jH → Nat × Nat × jH
  | 0, f, T => (f, 0, T)
  | d + 1, f, T => if sg B N f 41 = true then cb9 ns d (nx B N f) (hs T 4 (T 5 d).toNat (ns : Int)) else (f, d + 1, T)
def fi9 (f d : Nat) : (Bool × Bool) × Nat := if sg B N f 59 = true then ((false, true), nx B N f) else if N ≤ f ∧ d = 0 then ((false, false), f) else ((true, true), f)
def tb9 (T : jH) (ns f : Nat) (SD : List Int) : jH := hs (hs (hs (hs T 0 ns (kd9 B N f)) 1 ns (vM9 B N f)) 2 ns (vW9 B N f SD.length)) 3 ns (vY9 B N f)
abbrev pS : Type := (Bool × Bool) × (Nat × Nat × Nat) × jH × List Int
def pz (s : pS) : pS :=
  if s.1.1 = true ∨ s.1.2 = false then s
  else if (stq B N s.2.1.1 s.2.1.2.2 s.2.1.2.1).1 = true then ((true, true), ((stq B N s.2.1.1 s.2.1.2.2 s.2.1.2.1).2, s.2.1.2.1, s.2.1.2.2), s.2.2.1, s.2.2.2)
  else if kd9 B N s.2.1.1 = 4 then ((false, true), ((stq B N s.2.1.1 s.2.1.2.2 s.2.1.2.1).2, s.2.1.2.1 + 1, s.2.1.2.2 + 1), hs (tb9 B N s.2.2.1 s.2.1.2.1 s.2.1.1 s.2.2.2) 5 s.2.1.2.2 (s.2.1.2.1 : Int), s.2.2.2)
  else ((fi9 B N (cb9 B N (s.2.1.2.1 + 1) s.2.1.2.2 (stq B N s.2.1.1 s.2.1.2.2 s.2.1.2.1).2 (tb9 B N s.2.2.1 s.2.1.2.1 s.2.1.1 s.2.2.2)).1 (cb9 B N (s.2.1.2.1 + 1) s.2.1.2.2 (stq B N s.2.1.1 s.2.1.2.2 s.2.1.2.1).2 (tb9 B N s.2.2.1 s.2.1.2.1 s.2.1.1 s.2.2.2)).2.1).1, ((fi9 B N (cb9 B N (s.2.1.2.1 + 1) s.2.1.2.2 (stq B N s.2.1.1 s.2.1.2.2 s.2.1.2.1).2 (tb9 B N s.2.2.1 s.2.1.2.1 s.2.1.1 s.2.2.2)).1 (cb9 B N (s.2.1.2.1 + 1) s.2.1.2.2 (stq B N s.2.1.1 s.2.1.2.2 s.2.1.2.1).2 (tb9 B N s.2.2.1 s.2.1.2.1 s.2.1.1 s.2.2.2)).2.1).2, s.2.1.2.1 + 1, (cb9 B N (s.2.1.2.1 + 1) s.2.1.2.2 (stq B N s.2.1.1 s.2.1.2.2 s.2.1.2.1).2 (tb9 B N s.2.2.1 s.2.1.2.1 s.2.1.1 s.2.2.2)).2.1), (cb9 B N (s.2.1.2.1 + 1) s.2.1.2.2 (stq B N s.2.1.1 s.2.1.2.2 s.2.1.2.1).2 (tb9 B N s.2.2.1 s.2.1.2.1 s.2.1.1 s.2.2.2)).2.2, s.2.2.2 ++ vS9 B N s.2.1.1)
def pI : Nat → pS
  | 0 => ((false, true), (skw B N 0, 0, 0), (fun _ _ => 0), [])
  | i + 1 => pz B N (pI i)
end RR
section RS9
variable {B : Nat → Int} {N : Nat}
theorem pz_s {b mo : Bool} {f ns d : Nat} {T : jH} {SD : List Int} (h : b = true ∨ mo = false) : pz B N ((b, mo), (f, ns, d), T, SD) = ((b, mo), (f, ns, d), T, SD) := by rw [pz, if_pos h]
theorem pz_b {f ns d g : Nat} {T : jH} {SD : List Int} (h : stq B N f d ns = (true, g)) : pz B N ((false, true), (f, ns, d), T, SD) = ((true, true), (g, ns, d), T, SD) := by
  rw [pz, if_neg (fun q => by rcases q with q | q; exact absurd (show false = true from q) (by decide); exact absurd (show true = false from q) (by decide))]
  show (if (stq B N f d ns).1 = true then _ else _) = _
  rw [if_pos (by rw [h])]
  show ((true, true), ((stq B N f d ns).2, ns, d), T, SD) = _
  rw [h]
theorem pz_4 {f ns d g : Nat} {T : jH} {SD : List Int} (h : stq B N f d ns = (false, g)) (k4 : kd9 B N f = 4) : pz B N ((false, true), (f, ns, d), T, SD) = ((false, true), (g, ns + 1, d + 1), hs (tb9 B N T ns f SD) 5 d (ns : Int), SD) := by
  rw [pz, if_neg (fun q => by rcases q with q | q; exact absurd (show false = true from q) (by decide); exact absurd (show true = false from q) (by decide))]
  show (if (stq B N f d ns).1 = true then _ else if kd9 B N f = 4 then _ else _) = _
  rw [if_neg (by rw [h]; exact fun q => absurd (show false = true from q) (by decide)), if_pos k4]
  show ((false, true), ((stq B N f d ns).2, ns + 1, d + 1), _, SD) = _
  rw [h]
theorem pz_g {f ns d g : Nat} {T : jH} {SD : List Int} (h : stq B N f d ns = (false, g)) (k4 : kd9 B N f ≠ 4) : pz B N ((false, true), (f, ns, d), T, SD) = ((fi9 B N (cb9 B N (ns + 1) d g (tb9 B N T ns f SD)).1 (cb9 B N (ns + 1) d g (tb9 B N T ns f SD)).2.1).1, ((fi9 B N (cb9 B N (ns + 1) d g (tb9 B N T ns f SD)).1 (cb9 B N (ns + 1) d g (tb9 B N T ns f SD)).2.1).2, ns + 1, (cb9 B N (ns + 1) d g (tb9 B N T ns f SD)).2.1), (cb9 B N (ns + 1) d g (tb9 B N T ns f SD)).2.2, SD ++ vS9 B N f) := by
  rw [pz, if_neg (fun q => by rcases q with q | q; exact absurd (show false = true from q) (by decide); exact absurd (show true = false from q) (by decide))]
  show (if (stq B N f d ns).1 = true then _ else if kd9 B N f = 4 then _ else _) = _
  rw [if_neg (by rw [h]; exact fun q => absurd (show false = true from q) (by decide)), if_neg k4]
  dsimp only
  rw [h]
theorem cb9_t {ns d f : Nat} {T : jH} (h : sg B N f 41 = true) : cb9 B N ns (d + 1) f T = cb9 B N ns d (nx B N f) (hs T 4 (T 5 d).toNat (ns : Int)) := by rw [cb9, if_pos h]
theorem cb9_f {ns d f : Nat} {T : jH} (h : d = 0 ∨ sg B N f 41 = false) : cb9 B N ns d f T = (f, d, T) := by
  cases d with
  | zero => rfl
  | succ d => rw [cb9, if_neg]; rcases h with h | h; omega; rw [h]; decide
theorem cb9_b {ns : Nat} : ∀ d f T, f ≤ N → (cb9 B N ns d f T).1 ≤ N ∧ f ≤ (cb9 B N ns d f T).1 ∧ (cb9 B N ns d f T).2.1 ≤ d ∧ ∀ r, r ≠ 4 → (cb9 B N ns d f T).2.2 r = T r := by
  intro d
  induction d with
  | zero => intro f T hf; exact ⟨hf, Nat.le_refl _, Nat.le_refl _, fun _ _ => rfl⟩
  | succ d ih =>
    intro f T hf
    by_cases c : sg B N f 41 = true
    · rw [cb9_t c]
      have n := nx_b (B := B) hf
      have i := ih (nx B N f) (hs T 4 (T 5 d).toNat (ns : Int)) n.2.1
      exact ⟨i.1, by omega, by omega, fun r hr => by rw [i.2.2.2 r hr, hs_O hr]⟩
    · rw [cb9_f (Or.inr (Bool.eq_false_iff.mpr c))]
      exact ⟨hf, Nat.le_refl _, Nat.le_refl _, fun _ _ => rfl⟩
end RS9
/-- loops that are closed: where they end -/
def OV (c : Nat) (h T : jH) (ns d : Nat) : Prop := ∀ i, i < ns → T 0 i = 4 → (∀ e, e < d → T 5 e ≠ (i : Int)) → h c i = T 4 i
theorem OV.cl {c : Nat} {h T : jH} {ns d : Nat} {v : Int} (k : OV c h T ns (d + 1)) (t0 : 0 ≤ T 5 d) : OV c (hs h c (T 5 d).toNat v) (hs T 4 (T 5 d).toNat v) ns d := by
  intro i hi k4 ho
  rw [hs_O (show (0 : Nat) ≠ 4 by decide)] at k4
  by_cases e : i = (T 5 d).toNat
  · rw [e, hs_s, hs_s]
  · rw [hs_k e, hs_k e]
    refine k i hi k4 (fun q hq z => ?_)
    by_cases e2 : q = d
    · subst e2; omega
    · have := ho q (by omega)
      rw [hs_O (show (5 : Nat) ≠ 4 by decide)] at this
      exact this z
set_option maxRecDepth 20000 in
set_option maxHeartbeats 1000000 in
theorem k_cb_lp (l : Launch) (h : jH) (B : Nat → Int) (N ns n9 : Nat) (X : Nat × Nat × jH) (P : Option Value → jH → Prop) (hP : ∀ mem, (TK mem B N X.1 ∧ mem 362 15 = (X.2.1 : Int) ∧ OV 369 mem X.2.2 n9 X.2.1 ∧ (∀ x, x ≠ 362 → x ≠ 369 → mem x = h x) ∧ ∀ q, q ≠ 3 → q ≠ 4 → q ≠ 5 → q ≠ 15 → mem 362 q = h 362 q) → P none mem) : ∀ (m : Nat) (r : Nat) (d : Nat) (f : Nat) (T : jH) (mem : jH) (y2 : Option Value), d < m → (r + d ≤ 4 ∧ TK mem B N f ∧ mem 362 15 = (d : Int) ∧ OV 369 mem T n9 d ∧ (∀ e, e < d → mem 372 e = T 5 e ∧ 0 ≤ T 5 e ∧ T 5 e < 24) ∧ mem 362 6 = (ns : Int) ∧ cb9 B N ns d f T = X ∧ (∀ x, x ≠ 362 → x ≠ 369 → mem x = h x) ∧ ∀ q, q ≠ 3 → q ≠ 4 → q ≠ 5 → q ≠ 15 → mem 362 q = h 362 q) → jT l 80 2 [some (.ref 362), some (.int (jI ((r : Int)))), y2] [] mem P := by
  intro m
  induction m with
  | zero => intro r d f T mem y2 hk; omega
  | succ m ih =>
    intro r d f T mem y2 hk hi
    obtain ⟨i0, tk, ed, ov, op, en, eX, fr, fr2⟩ := hi
    refine tl_iload_n rfl rfl ?_
    refine tl_iconst rfl ?_
    refine tl_icmp_ge (tgt := 81) rfl rfl ⟨by omega, by omega⟩ ⟨by omega, by omega⟩ (fun c1 => ?_) (fun c1 => ?_)
    · skip
      refine tl_ret rfl ?_
      -- leaf 0 at 81
      first
        | (exfalso; omega)
        | (rw [cb9_f (Or.inl (by omega))] at eX
           subst eX
           exact hP mem ⟨tk, ed, ov, fr, fr2⟩)
        | (rw [cb9_f (Or.inr es)] at eX
           subst eX
           rw [st9_f es] at t1
           exact hP h1 ⟨t1, by rw [fr1.2 15 (by decide) (by decide) (by decide)]; exact ed, fun i hi k4 ho => by rw [fr1.1 369 (by decide)]; exact ov i hi k4 ho, fun x a b => by rw [fr1.1 x a]; exact fr x a b, fun q a b c e => by rw [fr1.2 q a b c]; exact fr2 q a b c e⟩)
    · show jT _ _ 7 _ _ _ _
      refine tl_aload_n rfl rfl ?_
      refine tl_geti (c := 7) (k9 := 15) rfl rfl rfl ?_
      rw [ed]
      show jT _ _ 11 _ _ _ _
      refine tl_if_le (tgt := 81) rfl rfl ⟨by omega, by omega⟩ (fun c2 => ?_) (fun c2 => ?_)
      · skip
        refine tl_ret rfl ?_
        -- leaf 1 at 81
        first
          | (exfalso; omega)
          | (rw [cb9_f (Or.inl (by omega))] at eX
             subst eX
             exact hP mem ⟨tk, ed, ov, fr, fr2⟩)
          | (rw [cb9_f (Or.inr es)] at eX
             subst eX
             rw [st9_f es] at t1
             exact hP h1 ⟨t1, by rw [fr1.2 15 (by decide) (by decide) (by decide)]; exact ed, fun i hi k4 ho => by rw [fr1.1 369 (by decide)]; exact ov i hi k4 ho, fun x a b => by rw [fr1.1 x a]; exact fr x a b, fun q a b c e => by rw [fr1.2 q a b c]; exact fr2 q a b c e⟩)
      · show jT _ _ 14 _ _ _ _
        refine tl_aload_n rfl rfl ?_
        refine tl_bipush rfl rfl ?_
        refine tl_v1i (c9 := 7) (k_isSgn l mem B N f tk 41 (by decide) (by decide)) rfl rfl rfl rfl rfl (Nat.le_of_ble_eq_true rfl) (fun z1 h1 p1 => ?_)
        obtain ⟨e1, t1, fr1, v1⟩ := p1
        have b1 := zb_b (sg B N f 41)
        subst e1
        refine tl_if_eq (tgt := 81) rfl rfl ⟨by omega, by omega⟩ (fun c3 => ?_) (fun c3 => ?_)
        · skip
          have es := zb0 c3
          refine tl_ret rfl ?_
          -- leaf 2 at 81
          first
            | (exfalso; omega)
            | (rw [cb9_f (Or.inl (by omega))] at eX
               subst eX
               exact hP mem ⟨tk, ed, ov, fr, fr2⟩)
            | (rw [cb9_f (Or.inr es)] at eX
               subst eX
               rw [st9_f es] at t1
               exact hP h1 ⟨t1, by rw [fr1.2 15 (by decide) (by decide) (by decide)]; exact ed, fun i hi k4 ho => by rw [fr1.1 369 (by decide)]; exact ov i hi k4 ho, fun x a b => by rw [fr1.1 x a]; exact fr x a b, fun q a b c e => by rw [fr1.2 q a b c]; exact fr2 q a b c e⟩)
        · show jT _ _ 23 _ _ _ _
          have es := zb1' c3
          show jT _ _ 23 _ _ _ _
          refine tl_aload_n rfl rfl ?_
          refine tl_dup rfl rfl ?_
          refine tl_geti (c := 7) (k9 := 15) rfl rfl rfl ?_
          rw [fr1.2 15 (by decide) (by decide) (by decide), ed]
          refine tl_iconst rfl ?_
          refine tl_isub rfl ?_
          refine tl_puti (c := 7) (k9 := 15) rfl rfl rfl rfl ?_
          refine tl_aload_n rfl rfl ?_
          show jT _ _ 34 _ _ _ _
          refine tl_geti (c := 7) (k9 := 15) rfl rfl rfl ?_
          rw [hs_s]
          refine tl_iconst rfl ?_
          refine tl_icmp_ge (tgt := 53) rfl rfl ⟨by omega, by omega⟩ ⟨by omega, by omega⟩ (fun c4 => ?_) (fun c4 => ?_)
          · skip
            refine tl_iconst rfl ?_
            refine tl_istore_n rfl (Nat.le_of_ble_eq_true rfl) rfl ?_
            refine tl_iload_n rfl rfl ?_
            refine tl_if_lt (tgt := 75) rfl rfl ⟨by omega, by omega⟩ (fun c5 => ?_) (fun c5 => ?_)
            · skip
              exfalso; omega
            · show jT _ _ 59 _ _ _ _
              show jT _ _ 59 _ _ _ _
              refine tl_iload_n rfl rfl ?_
              refine tl_bipush rfl rfl ?_
              refine tl_icmp_ge (tgt := 75) rfl rfl ⟨by omega, by omega⟩ ⟨by omega, by omega⟩ (fun c6 => ?_) (fun c6 => ?_)
              · skip
                exfalso; omega
              · show jT _ _ 65 _ _ _ _
                refine tl_aload_n rfl rfl ?_
                refine tl_getr (c := 7) (k9 := 11) (b := 369) rfl rfl rfl rfl ?_
                refine tl_iload_n rfl rfl ?_
                refine tl_aload_n rfl rfl ?_
                show jT _ _ 71 _ _ _ _
                refine tl_geti (c := 7) (k9 := 6) rfl rfl rfl ?_
                rw [hs_k (by decide), fr1.2 6 (by decide) (by decide) (by decide), en]
                refine tl_iast (n := 24) rfl rfl rfl (by omega) (by omega) ?_
                rw [show Int.toNat 0 = 0 from rfl]
                refine tl_iinc rfl rfl rfl ?_
                refine tl_goto (tgt := 2) rfl rfl ?_
                show jT _ _ 2 _ _ _ _
                -- leaf 3 at 2
                first
                  | (exfalso; omega)
                  | (obtain ⟨d9, hd9e⟩ : ∃ d9, d = d9 + 1 := ⟨d - 1, by omega⟩
                     subst hd9e
                     rw [cb9_t es] at eX
                     rw [st9_t es] at t1
                     have o2 := op d9 (by omega)
                     rw [show d9 + 1 - 1 = d9 by omega]
                     refine ih (r + 1) d9 (nx B N f) (hs T 4 (T 5 d9).toNat (ns : Int)) _ _ (by omega) ⟨by omega, ?_, ?_, ?_, fun e he => ?_, ?_, eX, fun x a b => ?_, fun q a b c e => ?_⟩
                     · exact ⟨⟨by rw [hs_o (by decide), hs_o (by decide)]; exact t1.1.1, fun i hi => by rw [hs_o (by decide), hs_o (by decide)]; exact t1.1.2.1 i hi, t1.1.2.2⟩, by rw [hs_o (by decide), hs_k (by decide)]; exact t1.2.1, by rw [hs_o (by decide), hs_k (by decide)]; exact t1.2.2.1, t1.2.2.2⟩
                     · rw [hs_o (by decide), hs_s]; omega
                     · refine OV.cl (c := 369) ?_ o2.2.1
                       intro i hi k4 ho
                       rw [hs_O (by decide), fr1.1 369 (by decide)]; exact ov i hi k4 ho
                     · have o3 := op e (by omega)
                       rw [hs_O (show (5 : Nat) ≠ 4 by decide), hs_o (by decide), hs_o (by decide), fr1.1 372 (by decide)]; exact o3
                     · rw [hs_o (by decide), hs_k (by decide), fr1.2 6 (by decide) (by decide) (by decide)]; exact en
                     · rw [hs_O b, hs_O a, fr1.1 x a]; exact fr x a b
                     · rw [hs_o (by decide), hs_k e, fr1.2 q a b c]; exact fr2 q a b c e)
          · show jT _ _ 41 _ _ _ _
            refine tl_aload_n rfl rfl ?_
            refine tl_getr (c := 7) (k9 := 13) (b := 372) rfl rfl rfl rfl ?_
            refine tl_aload_n rfl rfl ?_
            show jT _ _ 46 _ _ _ _
            refine tl_geti (c := 7) (k9 := 15) rfl rfl rfl ?_
            rw [hs_s]
            refine tl_iald (n := 4) rfl rfl rfl (by omega) (by omega) ?_
            rw [show ((d : Int) - 1).toNat = d - 1 by omega, hs_o (by decide), fr1.1 372 (by decide), (op (d - 1) (by omega)).1]
            have o1 := (op (d - 1) (by omega)).2
            refine tl_goto (tgt := 54) rfl rfl ?_
            refine tl_istore_n rfl (Nat.le_of_ble_eq_true rfl) rfl ?_
            refine tl_iload_n rfl rfl ?_
            refine tl_if_lt (tgt := 75) rfl rfl ⟨by omega, by omega⟩ (fun c7 => ?_) (fun c7 => ?_)
            · skip
              refine tl_iinc rfl rfl rfl ?_
              show jT _ _ 78 _ _ _ _
              refine tl_goto (tgt := 2) rfl rfl ?_
              show jT _ _ 2 _ _ _ _
              -- leaf 4 at 2
              first
                | (exfalso; omega)
                | (obtain ⟨d9, hd9e⟩ : ∃ d9, d = d9 + 1 := ⟨d - 1, by omega⟩
                   subst hd9e
                   rw [cb9_t es] at eX
                   rw [st9_t es] at t1
                   have o2 := op d9 (by omega)
                   rw [show d9 + 1 - 1 = d9 by omega]
                   refine ih (r + 1) d9 (nx B N f) (hs T 4 (T 5 d9).toNat (ns : Int)) _ _ (by omega) ⟨by omega, ?_, ?_, ?_, fun e he => ?_, ?_, eX, fun x a b => ?_, fun q a b c e => ?_⟩
                   · exact ⟨⟨by rw [hs_o (by decide), hs_o (by decide)]; exact t1.1.1, fun i hi => by rw [hs_o (by decide), hs_o (by decide)]; exact t1.1.2.1 i hi, t1.1.2.2⟩, by rw [hs_o (by decide), hs_k (by decide)]; exact t1.2.1, by rw [hs_o (by decide), hs_k (by decide)]; exact t1.2.2.1, t1.2.2.2⟩
                   · rw [hs_o (by decide), hs_s]; omega
                   · refine OV.cl (c := 369) ?_ o2.2.1
                     intro i hi k4 ho
                     rw [hs_O (by decide), fr1.1 369 (by decide)]; exact ov i hi k4 ho
                   · have o3 := op e (by omega)
                     rw [hs_O (show (5 : Nat) ≠ 4 by decide), hs_o (by decide), hs_o (by decide), fr1.1 372 (by decide)]; exact o3
                   · rw [hs_o (by decide), hs_k (by decide), fr1.2 6 (by decide) (by decide) (by decide)]; exact en
                   · rw [hs_O b, hs_O a, fr1.1 x a]; exact fr x a b
                   · rw [hs_o (by decide), hs_k e, fr1.2 q a b c]; exact fr2 q a b c e)
            · show jT _ _ 59 _ _ _ _
              refine tl_iload_n rfl rfl ?_
              refine tl_bipush rfl rfl ?_
              refine tl_icmp_ge (tgt := 75) rfl rfl ⟨by omega, by omega⟩ ⟨by omega, by omega⟩ (fun c8 => ?_) (fun c8 => ?_)
              · skip
                refine tl_iinc rfl rfl rfl ?_
                refine tl_goto (tgt := 2) rfl rfl ?_
                show jT _ _ 2 _ _ _ _
                -- leaf 5 at 2
                first
                  | (exfalso; omega)
                  | (obtain ⟨d9, hd9e⟩ : ∃ d9, d = d9 + 1 := ⟨d - 1, by omega⟩
                     subst hd9e
                     rw [cb9_t es] at eX
                     rw [st9_t es] at t1
                     have o2 := op d9 (by omega)
                     rw [show d9 + 1 - 1 = d9 by omega]
                     refine ih (r + 1) d9 (nx B N f) (hs T 4 (T 5 d9).toNat (ns : Int)) _ _ (by omega) ⟨by omega, ?_, ?_, ?_, fun e he => ?_, ?_, eX, fun x a b => ?_, fun q a b c e => ?_⟩
                     · exact ⟨⟨by rw [hs_o (by decide), hs_o (by decide)]; exact t1.1.1, fun i hi => by rw [hs_o (by decide), hs_o (by decide)]; exact t1.1.2.1 i hi, t1.1.2.2⟩, by rw [hs_o (by decide), hs_k (by decide)]; exact t1.2.1, by rw [hs_o (by decide), hs_k (by decide)]; exact t1.2.2.1, t1.2.2.2⟩
                     · rw [hs_o (by decide), hs_s]; omega
                     · refine OV.cl (c := 369) ?_ o2.2.1
                       intro i hi k4 ho
                       rw [hs_O (by decide), fr1.1 369 (by decide)]; exact ov i hi k4 ho
                     · have o3 := op e (by omega)
                       rw [hs_O (show (5 : Nat) ≠ 4 by decide), hs_o (by decide), hs_o (by decide), fr1.1 372 (by decide)]; exact o3
                     · rw [hs_o (by decide), hs_k (by decide), fr1.2 6 (by decide) (by decide) (by decide)]; exact en
                     · rw [hs_O b, hs_O a, fr1.1 x a]; exact fr x a b
                     · rw [hs_o (by decide), hs_k e, fr1.2 q a b c]; exact fr2 q a b c e)
              · show jT _ _ 65 _ _ _ _
                refine tl_aload_n rfl rfl ?_
                show jT _ _ 66 _ _ _ _
                refine tl_getr (c := 7) (k9 := 11) (b := 369) rfl rfl rfl rfl ?_
                refine tl_iload_n rfl rfl ?_
                refine tl_aload_n rfl rfl ?_
                refine tl_geti (c := 7) (k9 := 6) rfl rfl rfl ?_
                rw [hs_k (by decide), fr1.2 6 (by decide) (by decide) (by decide), en]
                refine tl_iast (n := 24) rfl rfl rfl (by omega) (by omega) ?_
                refine tl_iinc rfl rfl rfl ?_
                refine tl_goto (tgt := 2) rfl rfl ?_
                show jT _ _ 2 _ _ _ _
                -- leaf 6 at 2
                first
                  | (exfalso; omega)
                  | (obtain ⟨d9, hd9e⟩ : ∃ d9, d = d9 + 1 := ⟨d - 1, by omega⟩
                     subst hd9e
                     rw [cb9_t es] at eX
                     rw [st9_t es] at t1
                     have o2 := op d9 (by omega)
                     rw [show d9 + 1 - 1 = d9 by omega]
                     refine ih (r + 1) d9 (nx B N f) (hs T 4 (T 5 d9).toNat (ns : Int)) _ _ (by omega) ⟨by omega, ?_, ?_, ?_, fun e he => ?_, ?_, eX, fun x a b => ?_, fun q a b c e => ?_⟩
                     · exact ⟨⟨by rw [hs_o (by decide), hs_o (by decide)]; exact t1.1.1, fun i hi => by rw [hs_o (by decide), hs_o (by decide)]; exact t1.1.2.1 i hi, t1.1.2.2⟩, by rw [hs_o (by decide), hs_k (by decide)]; exact t1.2.1, by rw [hs_o (by decide), hs_k (by decide)]; exact t1.2.2.1, t1.2.2.2⟩
                     · rw [hs_o (by decide), hs_s]; omega
                     · refine OV.cl (c := 369) ?_ o2.2.1
                       intro i hi k4 ho
                       rw [hs_O (by decide), fr1.1 369 (by decide)]; exact ov i hi k4 ho
                     · have o3 := op e (by omega)
                       rw [hs_O (show (5 : Nat) ≠ 4 by decide), hs_o (by decide), hs_o (by decide), fr1.1 372 (by decide)]; exact o3
                     · rw [hs_o (by decide), hs_k (by decide), fr1.2 6 (by decide) (by decide) (by decide)]; exact en
                     · rw [hs_O b, hs_O a, fr1.1 x a]; exact fr x a b
                     · rw [hs_o (by decide), hs_k e, fr1.2 q a b c]; exact fr2 q a b c e)
set_option maxRecDepth 20000 in
set_option maxHeartbeats 1000000 in
theorem k_closeB (l : Launch) (h : jH) (B : Nat → Int) (N ns n9 d f : Nat) (T : jH) (d4 : d ≤ 4) (tk : TK h B N f) (ed : h 362 15 = (d : Int)) (ov : OV 369 h T n9 d) (op : ∀ e, e < d → h 372 e = T 5 e ∧ 0 ≤ T 5 e ∧ T 5 e < 24) (en : h 362 6 = (ns : Int)) : cV l 80 [.ref 362] h (fun h' => TK h' B N (cb9 B N ns d f T).1 ∧ h' 362 15 = ((cb9 B N ns d f T).2.1 : Int) ∧ OV 369 h' (cb9 B N ns d f T).2.2 n9 (cb9 B N ns d f T).2.1 ∧ (∀ x, x ≠ 362 → x ≠ 369 → h' x = h x) ∧ ∀ q, q ≠ 3 → q ≠ 4 → q ≠ 5 → q ≠ 15 → h' 362 q = h 362 q) := by
  refine cV.of rfl rfl ?_
  refine tl_iconst rfl ?_
  refine tl_istore_n rfl (Nat.le_of_ble_eq_true rfl) rfl ?_
  show jT _ _ 2 _ _ _ _
  -- leaf 0 at 2
  exact k_cb_lp l h B N ns n9 (cb9 B N ns d f T) _ (fun mem hj => ⟨rfl, hj⟩) _ 0 d f T h _ (Nat.lt_succ_self _) ⟨by omega, tk, ed, ov, op, en, rfl, fun _ _ _ => rfl, fun _ _ _ _ _ => rfl⟩
set_option maxRecDepth 20000 in
set_option maxHeartbeats 1000000 in
theorem k_opensB (l : Launch) (h : jH) (k : Nat) (k24 : k < 24) (kv : Int) (ek : h 365 k = kv) (k0 : -1 ≤ kv) (k9 : kv ≤ 4) : cI l 79 [.ref 362, .int (jI (k : Int))] h (fun z h' => h' = h ∧ z = if kv = 4 then 1 else 0) := by
  refine cI.ofZ rfl rfl ?_
  refine tl_iload_n rfl rfl ?_
  refine tl_if_lt (tgt := 24) rfl rfl ⟨by omega, by omega⟩ (fun c1 => ?_) (fun c1 => ?_)
  · skip
    refine tl_iconst rfl ?_
    refine tl_iret rfl ?_
    -- leaf 0 at 25
    first
      | (exfalso; omega)
      | exact ⟨1, rfl, Or.inr rfl, rfl, by rw [if_pos (by omega)]⟩
      | exact ⟨0, rfl, Or.inl rfl, rfl, by rw [if_neg (by omega)]⟩
  · show jT _ _ 4 _ _ _ _
    refine tl_iload_n rfl rfl ?_
    refine tl_bipush rfl rfl ?_
    show jT _ _ 7 _ _ _ _
    refine tl_icmp_ge (tgt := 24) rfl rfl ⟨by omega, by omega⟩ ⟨by omega, by omega⟩ (fun c2 => ?_) (fun c2 => ?_)
    · skip
      refine tl_iconst rfl ?_
      refine tl_iret rfl ?_
      -- leaf 1 at 25
      first
        | (exfalso; omega)
        | exact ⟨1, rfl, Or.inr rfl, rfl, by rw [if_pos (by omega)]⟩
        | exact ⟨0, rfl, Or.inl rfl, rfl, by rw [if_neg (by omega)]⟩
    · show jT _ _ 10 _ _ _ _
      refine tl_aload_n rfl rfl ?_
      refine tl_getr (c := 7) (k9 := 7) (b := 365) rfl rfl rfl rfl ?_
      refine tl_iload_n rfl rfl ?_
      refine tl_iald (n := 24) rfl rfl rfl (by omega) (by omega) ?_
      rw [Int.toNat_natCast, ek]
      show jT _ _ 16 _ _ _ _
      refine tl_iconst rfl ?_
      refine tl_icmp_ne (tgt := 24) rfl rfl ⟨by omega, by omega⟩ ⟨by omega, by omega⟩ (fun c3 => ?_) (fun c3 => ?_)
      · skip
        refine tl_iconst rfl ?_
        refine tl_iret rfl ?_
        -- leaf 2 at 25
        first
          | (exfalso; omega)
          | exact ⟨1, rfl, Or.inr rfl, rfl, by rw [if_pos (by omega)]⟩
          | exact ⟨0, rfl, Or.inl rfl, rfl, by rw [if_neg (by omega)]⟩
      · show jT _ _ 20 _ _ _ _
        refine tl_iconst rfl ?_
        refine tl_goto (tgt := 25) rfl rfl ?_
        refine tl_iret rfl ?_
        -- leaf 3 at 25
        first
          | (exfalso; omega)
          | exact ⟨1, rfl, Or.inr rfl, rfl, by rw [if_pos (by omega)]⟩
          | exact ⟨0, rfl, Or.inl rfl, rfl, by rw [if_neg (by omega)]⟩
set_option maxRecDepth 20000 in
set_option maxHeartbeats 1000000 in
theorem k_readStepX (l : Launch) (h : jH) (k : Int) (k24 : 24 ≤ k) (k99 : k ≤ 99) : cI l 81 [.ref 362, .int (jI k)] h (fun z h' => h' = h ∧ z = 0) := by
  refine cI.ofZ rfl rfl ?_
  refine tl_iload_n rfl rfl ?_
  refine tl_if_lt (tgt := 10) rfl rfl ⟨by omega, by omega⟩ (fun c1 => ?_) (fun c1 => ?_)
  · skip
    refine tl_iconst rfl ?_
    refine tl_iret rfl ?_
    -- leaf 0 at 11
    first
      | (exfalso; omega)
      | exact ⟨0, rfl, Or.inl rfl, rfl, rfl⟩
  · show jT _ _ 4 _ _ _ _
    refine tl_iload_n rfl rfl ?_
    refine tl_bipush rfl rfl ?_
    show jT _ _ 7 _ _ _ _
    refine tl_icmp_lt (tgt := 12) rfl rfl ⟨by omega, by omega⟩ ⟨by omega, by omega⟩ (fun c2 => ?_) (fun c2 => ?_)
    · skip
      exfalso; omega
    · show jT _ _ 10 _ _ _ _
      refine tl_iconst rfl ?_
      refine tl_iret rfl ?_
      -- leaf 1 at 11
      first
        | (exfalso; omega)
        | exact ⟨0, rfl, Or.inl rfl, rfl, rfl⟩
