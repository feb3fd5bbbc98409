/-! recipes: all steps read, of the class -/
section RU
variable {B : Nat → Int} {N : Nat}
theorem mvp_m {σ : Bool × Nat} {t : Nat → Bool} (h : σ.2 ≤ N) : σ.2 ≤ (mvp B N σ t).2 := by
  obtain ⟨b, f⟩ := σ
  cases b with
  | true => exact Nat.le_refl _
  | false =>
    cases e : t f with
    | true => rw [mvp_t e]; exact (nx_b h).1
    | false => rw [mvp_f e]; exact Nat.le_refl _
theorem sS9_e9 : ∀ m p, p ≤ N → N - p < m → (sS9 B N (N + 1 - p) p).1.1 = false → (sS9 B N (N + 1 - p) p).2.length + p ≤ (sS9 B N (N + 1 - p) p).1.2 := by
  intro m
  induction m with
  | zero => intro p _ h; omega
  | succ m ih =>
    intro p hp h
    have n1 := nx_b (B := B) hp
    cases a : nb B N p 0 255 with
    | false => rw [show N + 1 - p = (N - p) + 1 by omega, sS9_n a]; exact fun q => absurd (show true = false from q) (by decide)
    | true =>
      have pN := nb_lt a
      have n1c := n1.2.2 pN
      cases b : sg B N (nx B N p) 44 with
      | false => rw [show N + 1 - p = (N - p) + 1 by omega, sS9_e a b]; intro _; show 1 + p ≤ nx B N p; omega
      | true =>
        have qN := sg_lt (by decide) b
        have n2 := nx_b (B := B) (f := nx B N p) n1.2.1
        have n2c := n2.2.2 qN
        rw [sS9_s hp a b]
        intro q
        have r := ih (nx B N (nx B N p)) n2.2.1 (by omega) q
        show (_ + 1) + p ≤ (sS9 B N (N + 1 - nx B N (nx B N p)) (nx B N (nx B N p))).1.2
        omega
theorem stp_m {f d : Nat} (hf : f ≤ N) (g : (stp B N f d).1 = false) : f + (vS9 B N f).length ≤ (stp B N f d).2 := by
  have n1 := nx_b (B := B) hf
  by_cases k2 : kd9 B N f = 2
  · rw [stp_2 k2] at g ⊢
    rw [vS9, if_pos k2]
    have r := sS9_e9 (N - nx B N f + 1) (nx B N f) n1.2.1 (by omega) g
    show f + (sS9 B N (N + 1 - nx B N f) (nx B N f)).2.length ≤ (sS9 B N (N + 1 - nx B N f) (nx B N f)).1.2
    omega
  · rw [vS9, if_neg k2]
    show f + 0 ≤ _
    have m1 : ∀ (t1 : Nat → Bool), nx B N f ≤ (mvp B N (false, nx B N f) t1).2 := fun t1 => mvp_m (B := B) (N := N) (σ := (false, nx B N f)) (t := t1) n1.2.1
    have l1 : ∀ (t1 : Nat → Bool), (mvp B N (false, nx B N f) t1).2 ≤ N := fun t1 => mvp_N n1.2.1
    unfold stp
    split
    · have a1 := m1 (fun q => nb B N q 1 64)
      have a2 := mvp_m (B := B) (t := fun q => wd B N q 1) (l1 (fun q => nb B N q 1 64))
      have b2 := mvp_N (B := B) (t := fun q => wd B N q 1) (l1 (fun q => nb B N q 1 64))
      have a3 := mvp_m (B := B) (t := fun q => nb B N q 0 63) b2
      have b3 := mvp_N (B := B) (t := fun q => nb B N q 0 63) b2
      change _ ≤ (sT0 B N f).2 at a3
      change (sT0 B N f).2 ≤ N at b3
      unfold sT
      split
      · have c1 := nx_b (B := B) b3
        have c2 := mvp_m (B := B) (N := N) (σ := (false, nx B N (sT0 B N f).2)) (t := fun q => nb B N q 0 255) c1.2.1
        change nx B N (sT0 B N f).2 ≤ _ at c2
        omega
      · omega
    · split
      · have a1 := m1 (fun q => nb B N q 1 64)
        have a2 := mvp_m (B := B) (t := fun q => wd B N q 4) (l1 (fun q => nb B N q 1 64))
        have b2 := mvp_N (B := B) (t := fun q => wd B N q 4) (l1 (fun q => nb B N q 1 64))
        have a3 := mvp_m (B := B) (t := fun q => nb B N q 0 255) b2
        change _ ≤ (sF9 B N f 4 0 255).2 at a3
        omega
      · split
        · have a1 := m1 (fun q => nb B N q 1 64)
          have a2 := mvp_m (B := B) (t := fun q => wd B N q 7) (l1 (fun q => nb B N q 1 64))
          have b2 := mvp_N (B := B) (t := fun q => wd B N q 7) (l1 (fun q => nb B N q 1 64))
          have a3 := mvp_m (B := B) (t := fun q => nb B N q 1 64) b2
          change _ ≤ (sF9 B N f 7 1 64).2 at a3
          omega
        · split
          · have a1 := m1 (fun q => nb B N q 1 9)
            have a2 := mvp_m (B := B) (t := fun q => sg B N q 40 && decide (d < 4)) (l1 (fun q => nb B N q 1 9))
            change _ ≤ (sM9 B N f d).2 at a2
            omega
          · exact Nat.le_refl _
end RU
def pit (B : Nat → Int) (N : Nat) : Nat → pS → pS
  | 0, s => s
  | m + 1, s => pit B N m (pz B N s)
theorem pit_s {B : Nat → Int} {N : Nat} {b mo : Bool} {f ns d : Nat} {T : jH} {SD : List Int} (h : b = true ∨ mo = false) : ∀ m, pit B N m ((b, mo), (f, ns, d), T, SD) = ((b, mo), (f, ns, d), T, SD) := by
  intro m
  induction m with
  | zero => rfl
  | succ m ih => rw [pit, pz_s h]; exact ih
def pX (B : Nat → Int) (N : Nat) : pS := pit B N 25 ((false, true), (skw B N 0, 0, 0), (fun _ _ => 0), [])
/-- the tables of the class -/
def CRg (B : Nat → Int) (N : Nat) (h : jH) (f ns d : Nat) (T : jH) (SD : List Int) : Prop := TK h B N f ∧ h 362 6 = (ns : Int) ∧ h 362 15 = (d : Int) ∧ d ≤ 4 ∧ ns ≤ 24 ∧ (∀ i, i < ns → h 365 i = T 0 i ∧ h 366 i = T 1 i ∧ (T 0 i ≠ 4 → h 367 i = T 2 i) ∧ h 368 i = T 3 i) ∧ (∀ e, e < d → h 372 e = T 5 e ∧ 0 ≤ T 5 e ∧ T 5 e < 24) ∧ OV 369 h T ns d ∧ RL h 370 371 SD ∧ SD.length ≤ f
def FL (h h' : jH) : Prop := (∀ x, (x < 362 ∨ 372 < x) → h' x = h x) ∧ ∀ q, q = 0 ∨ q = 1 → h' 362 q = h 362 q
section RV
variable {B : Nat → Int} {N : Nat} {T : jH} {ns f : Nat} {SD : List Int}
theorem tb9_o {q r : Nat} (h : q ≠ ns ∨ 4 ≤ r) : tb9 B N T ns f SD r q = T r q := by
  unfold tb9
  by_cases e3 : r = 3 ∧ q = ns
  · omega
  · have k : ∀ (U : jH) (z : Nat) (v : Int), z < 4 → hs U z ns v r q = U r q := fun U z v hz => by
      by_cases e : r = z
      · subst e; exact hs_k (by omega)
      · exact hs_o e
    rw [k _ 3 _ (by decide), k _ 2 _ (by decide), k _ 1 _ (by decide), k _ 0 _ (by decide)]
theorem tb9_n : tb9 B N T ns f SD 0 ns = kd9 B N f ∧ tb9 B N T ns f SD 1 ns = vM9 B N f ∧ tb9 B N T ns f SD 2 ns = vW9 B N f SD.length ∧ tb9 B N T ns f SD 3 ns = vY9 B N f := by
  unfold tb9
  refine ⟨?_, ?_, ?_, ?_⟩
  · rw [hs_o (by decide), hs_o (by decide), hs_o (by decide), hs_s]
  · rw [hs_o (by decide), hs_o (by decide), hs_s]
  · rw [hs_o (by decide), hs_s]
  · rw [hs_s]
end RV
theorem tb_rel {B : Nat → Int} {N : Nat} {h h' T : jH} {f ns d : Nat} {SD : List Int} (k : ∀ i, i < ns → h 365 i = T 0 i ∧ h 366 i = T 1 i ∧ (T 0 i ≠ 4 → h 367 i = T 2 i) ∧ h 368 i = T 3 i) (fr : FST ns d h h') (g : G9 B N f d ns SD h') : ∀ i, i < ns + 1 → h' 365 i = tb9 B N T ns f SD 0 i ∧ h' 366 i = tb9 B N T ns f SD 1 i ∧ (tb9 B N T ns f SD 0 i ≠ 4 → h' 367 i = tb9 B N T ns f SD 2 i) ∧ h' 368 i = tb9 B N T ns f SD 3 i := by
  intro i hi
  by_cases e : i = ns
  · subst e
    have t := tb9_n (B := B) (N := N) (T := T) (ns := i) (f := f) (SD := SD)
    rw [t.1, t.2.1, t.2.2.1, t.2.2.2]
    exact ⟨g.1, g.2.1, g.2.2.1, g.2.2.2.1⟩
  · rw [tb9_o (Or.inl e), tb9_o (Or.inl e), tb9_o (Or.inl e), tb9_o (Or.inl e), fr.2.1 365 (by decide) (by decide) i e, fr.2.1 366 (by decide) (by decide) i e, fr.2.1 367 (by decide) (by decide) i e, fr.2.1 368 (by decide) (by decide) i e]
    exact k i (by omega)
set_option maxRecDepth 20000 in
set_option maxHeartbeats 1000000 in
theorem k_x47 (l : Launch) (mem : jH) (f : Nat) (fine mo st : Int) (hf : fine = 0 ∨ fine = 1) (hm : mo = 0 ∨ mo = 1) (hx : fine = 0 ∨ mo = 0) (s0 : 0 ≤ st) (s9 : st ≤ 99) (e3 : mem 362 3 = (f : Int)) (P : Option Value → jH → Prop) (h0 : fine = 0 → P (some (.int (jI 0))) (hs mem 362 0 (f : Int))) (h1 : fine = 1 → P (some (.int (jI 1))) (hs mem 362 0 (-1))) : jT l 78 47 [some (.ref 362), some (.ref 309), some (.int (jI (fine))), some (.int (jI (mo))), some (.int (jI (st)))] [] mem P := by
  refine tl_iload rfl rfl ?_
  refine tl_bipush rfl rfl ?_
  refine tl_icmp_gt (tgt := 138) rfl rfl ⟨by omega, by omega⟩ ⟨by omega, by omega⟩ (fun c1 => ?_) (fun c1 => ?_)
  · skip
    refine tl_aload_n rfl rfl ?_
    refine tl_iload_n rfl rfl ?_
    refine tl_if_eq (tgt := 147) rfl rfl ⟨by omega, by omega⟩ (fun c2 => ?_) (fun c2 => ?_)
    · skip
      show jT _ _ 147 _ _ _ _
      refine tl_aload_n rfl rfl ?_
      refine tl_geti (c := 7) (k9 := 3) rfl rfl rfl ?_
      rw [e3]
      refine tl_puti (c := 7) (k9 := 0) rfl rfl rfl rfl ?_
      refine tl_iload_n rfl rfl ?_
      refine tl_iret rfl ?_
      -- leaf 0 at 155
      first
        | (exfalso; omega)
        | (have e : fine = 0 := by omega
           subst e
           exact h0 rfl)
        | (have e : fine = 1 := by omega
           subst e
           exact h1 rfl)
    · show jT _ _ 143 _ _ _ _
      refine tl_iconst rfl ?_
      refine tl_goto (tgt := 151) rfl rfl ?_
      show jT _ _ 151 _ _ _ _
      refine tl_puti (c := 7) (k9 := 0) rfl rfl rfl rfl ?_
      refine tl_iload_n rfl rfl ?_
      refine tl_iret rfl ?_
      -- leaf 1 at 155
      first
        | (exfalso; omega)
        | (have e : fine = 0 := by omega
           subst e
           exact h0 rfl)
        | (have e : fine = 1 := by omega
           subst e
           exact h1 rfl)
  · show jT _ _ 54 _ _ _ _
    refine tl_iload_n rfl rfl ?_
    refine tl_if_eq (tgt := 138) rfl rfl ⟨by omega, by omega⟩ (fun c3 => ?_) (fun c3 => ?_)
    · skip
      refine tl_aload_n rfl rfl ?_
      refine tl_iload_n rfl rfl ?_
      show jT _ _ 140 _ _ _ _
      refine tl_if_eq (tgt := 147) rfl rfl ⟨by omega, by omega⟩ (fun c4 => ?_) (fun c4 => ?_)
      · skip
        refine tl_aload_n rfl rfl ?_
        refine tl_geti (c := 7) (k9 := 3) rfl rfl rfl ?_
        rw [e3]
        refine tl_puti (c := 7) (k9 := 0) rfl rfl rfl rfl ?_
        refine tl_iload_n rfl rfl ?_
        refine tl_iret rfl ?_
        -- leaf 2 at 155
        first
          | (exfalso; omega)
          | (have e : fine = 0 := by omega
             subst e
             exact h0 rfl)
          | (have e : fine = 1 := by omega
             subst e
             exact h1 rfl)
      · show jT _ _ 143 _ _ _ _
        refine tl_iconst rfl ?_
        show jT _ _ 144 _ _ _ _
        refine tl_goto (tgt := 151) rfl rfl ?_
        refine tl_puti (c := 7) (k9 := 0) rfl rfl rfl rfl ?_
        refine tl_iload_n rfl rfl ?_
        refine tl_iret rfl ?_
        -- leaf 3 at 155
        first
          | (exfalso; omega)
          | (have e : fine = 0 := by omega
             subst e
             exact h0 rfl)
          | (have e : fine = 1 := by omega
             subst e
             exact h1 rfl)
    · show jT _ _ 58 _ _ _ _
      refine tl_iload_n rfl rfl ?_
      refine tl_if_eq (tgt := 138) rfl rfl ⟨by omega, by omega⟩ (fun c5 => ?_) (fun c5 => ?_)
      · skip
        refine tl_aload_n rfl rfl ?_
        show jT _ _ 139 _ _ _ _
        refine tl_iload_n rfl rfl ?_
        refine tl_if_eq (tgt := 147) rfl rfl ⟨by omega, by omega⟩ (fun c6 => ?_) (fun c6 => ?_)
        · skip
          refine tl_aload_n rfl rfl ?_
          refine tl_geti (c := 7) (k9 := 3) rfl rfl rfl ?_
          rw [e3]
          refine tl_puti (c := 7) (k9 := 0) rfl rfl rfl rfl ?_
          refine tl_iload_n rfl rfl ?_
          refine tl_iret rfl ?_
          -- leaf 4 at 155
          first
            | (exfalso; omega)
            | (have e : fine = 0 := by omega
               subst e
               exact h0 rfl)
            | (have e : fine = 1 := by omega
               subst e
               exact h1 rfl)
        · show jT _ _ 143 _ _ _ _
          show jT _ _ 143 _ _ _ _
          refine tl_iconst rfl ?_
          refine tl_goto (tgt := 151) rfl rfl ?_
          refine tl_puti (c := 7) (k9 := 0) rfl rfl rfl rfl ?_
          refine tl_iload_n rfl rfl ?_
          refine tl_iret rfl ?_
          -- leaf 5 at 155
          first
            | (exfalso; omega)
            | (have e : fine = 0 := by omega
               subst e
               exact h0 rfl)
            | (have e : fine = 1 := by omega
               subst e
               exact h1 rfl)
      · show jT _ _ 62 _ _ _ _
        show jT _ _ 62 _ _ _ _
        -- leaf 6 at 62
        exfalso; omega
set_option maxRecDepth 20000 in
set_option maxHeartbeats 1000000 in
theorem k_ra_lp (l : Launch) (h : jH) (B : Nat → Int) (N : Nat) (X : pS) (P : Option Value → jH → Prop) (hG : ∀ (mem : jH) (f ns d : Nat) (T : jH) (SD : List Int), X = ((false, false), (f, ns, d), T, SD) → CRg B N mem f ns d T SD → FL h mem → P (some (.int (jI 1))) (hs mem 362 0 (-1))) (hB : ∀ (mem : jH) (f : Nat), X.1.1 = true → X.2.1.1 = f → FL h mem → P (some (.int (jI 0))) (hs mem 362 0 (f : Int))) : ∀ (m : Nat) (i : Nat) (f : Nat) (d : Nat) (T : jH) (SD : List Int) (mem : jH), 25 - i < m → (CRg B N mem f i d T SD ∧ pit B N (25 - i) ((false, true), (f, i, d), T, SD) = X ∧ FL h mem) → jT l 78 47 [some (.ref 362), some (.ref 309), some (.int (jI (1))), some (.int (jI (1))), some (.int (jI ((i : Int))))] [] mem P := by
  intro m
  induction m with
  | zero => intro i f d T SD mem hk hi; have := hi.1.2.2.2.2.1; omega
  | succ m ih =>
    intro i f d T SD mem hk hi
    obtain ⟨⟨tk, en, ed, d4, i24, tbl, op, ov, rl, bd⟩, eX, fr⟩ := hi
    have fN := tk.2.2.2
    have n400 := tk.1.2.2.1
    have kr := kd9_r (B := B) (N := N) f
    by_cases c24 : i < 24
    · skip
      refine tl_iload rfl rfl ?_
      refine tl_bipush rfl rfl ?_
      refine tl_icmp_gt (tgt := 138) rfl rfl ⟨by omega, by omega⟩ ⟨by omega, by omega⟩ (fun c1 => ?_) (fun c1 => ?_)
      · skip
        refine tl_aload_n rfl rfl ?_
        refine tl_iload_n rfl rfl ?_
        refine tl_if_eq (tgt := 147) rfl rfl ⟨by omega, by omega⟩ (fun c2 => ?_) (fun c2 => ?_)
        · skip
          exfalso; omega
        · show jT _ _ 143 _ _ _ _
          show jT _ _ 143 _ _ _ _
          refine tl_iconst rfl ?_
          refine tl_goto (tgt := 151) rfl rfl ?_
          refine tl_puti (c := 7) (k9 := 0) rfl rfl rfl rfl ?_
          refine tl_iload_n rfl rfl ?_
          refine tl_iret rfl ?_
          -- leaf 0 at 155
          exfalso; omega
      · show jT _ _ 54 _ _ _ _
        refine tl_iload_n rfl rfl ?_
        refine tl_if_eq (tgt := 138) rfl rfl ⟨by omega, by omega⟩ (fun c3 => ?_) (fun c3 => ?_)
        · skip
          exfalso; omega
        · show jT _ _ 58 _ _ _ _
          show jT _ _ 58 _ _ _ _
          refine tl_iload_n rfl rfl ?_
          refine tl_if_eq (tgt := 138) rfl rfl ⟨by omega, by omega⟩ (fun c4 => ?_) (fun c4 => ?_)
          · skip
            exfalso; omega
          · show jT _ _ 62 _ _ _ _
            refine tl_aload_n rfl rfl ?_
            refine tl_iload rfl rfl ?_
            refine tl_v1i (c9 := 7) (k_readStep l mem B N f d i tk c24 d4 ed SD rl bd) rfl rfl rfl rfl rfl (Nat.le_of_ble_eq_true rfl) (fun z1 h1 p1 => ?_)
            obtain ⟨e1, t1, s1, f1, g1⟩ := p1
            have fl1 : FL h h1 := ⟨fun x hx => by rw [f1.1 x (by omega) (by omega)]; exact fr.1 x hx, fun q hq => by rw [f1.2.2.2 q (by omega) (by omega) (by omega) (by omega) (by omega)]; exact fr.2 q hq⟩
            have sq : stq B N f d i = stp B N f d := by rw [stq, if_pos c24]
            have zz : (z1 = 0 ∧ (stp B N f d).1 = true) ∨ (z1 = 1 ∧ (stp B N f d).1 = false) := by rw [e1]; cases (stp B N f d).1; exact Or.inr ⟨rfl, rfl⟩; exact Or.inl ⟨rfl, rfl⟩
            refine tl_istore_n rfl (Nat.le_of_ble_eq_true rfl) rfl ?_
            refine tl_iload_n rfl rfl ?_
            show jT _ _ 70 _ _ _ _
            refine tl_if_eq (tgt := 132) rfl rfl ⟨by omega, by omega⟩ (fun c5 => ?_) (fun c5 => ?_)
            · skip
              refine tl_iinc rfl rfl rfl ?_
              refine tl_goto (tgt := 47) rfl rfl ?_
              show jT _ _ 47 _ _ _ _
              -- leaf 1 at 47
              first
                | (have bdd : (stp B N f d).1 = true := by rcases zz with q | q; exact q.2; exact absurd q.1 (by omega)
                   have sqb : stq B N f d i = (true, (stp B N f d).2) := by rw [sq]; exact Prod.ext bdd rfl
                   rw [show 25 - i = (25 - (i + 1)) + 1 by omega, pit, pz_b sqb, pit_s (Or.inl rfl)] at eX
                   have z0 : z1 = 0 := by omega
                   subst z0
                   exact k_x47 l h1 _ 0 1 _ (Or.inl rfl) (Or.inr rfl) (Or.inl rfl) (by omega) (by omega) t1.2.1 P (fun _ => hB h1 _ (by rw [← eX]) (by rw [← eX]) fl1) (fun q => absurd q (by decide)))
                | (have k4y : kd9 B N f = 4 := by rcases z2c with q | q; exact q.2; exact absurd q.1 (by omega)
                   have z0 : z1 = 1 := by omega
                   subst z0
                   rw [show 25 - i = (25 - (i + 1)) + 1 by omega, pit, pz_4 sqg k4y] at eX
                   have gt := gg.2.2.2.2.2.1 k4y
                   have d3 : d < 4 := by
                     have sp := stp_4 (B := B) (N := N) (f := f) (d := d) k4y
                     rw [sp] at gd
                     have z := (mvp_g gd).2.1
                     by_cases c : d < 4
                     · exact c
                     · exfalso; (try dsimp only at z); rw [decide_eq_false c, Bool.and_false] at z; exact absurd z (by decide)
                   have vs0 : vS9 B N f = [] := by rw [vS9, if_neg (by rw [k4y]; decide)]
                   have rl1 := gg.2.2.2.2.1
                   rw [vs0, List.append_nil] at rl1
                   refine ih (i + 1) (stp B N f d).2 (d + 1) (hs (tb9 B N T i f SD) 5 d (i : Int)) SD h1 (by omega) ⟨⟨t1, s1, gt.2, by omega, by omega, fun q hq => ?_, fun e he => ?_, fun q hq k4 ho => ?_, rl1, by omega⟩, eX, fl1⟩
                   · rw [hs_o (by decide), hs_o (by decide), hs_o (by decide), hs_o (by decide)]; exact tbr q hq
                   · by_cases ee : e = d
                     · subst ee; rw [hs_s, gt.1]; omega
                     · rw [hs_k ee, f1.2.2.1 e ee, tb9_o (Or.inr (by decide))]; exact op e (by omega)
                   · rw [hs_o (by decide)] at k4
                     have qi : q ≠ i := fun z => ho d (by omega) (by rw [hs_s, z])
                     rw [tb9_o (Or.inl qi)] at k4
                     rw [f1.1 369 (by decide) (by omega), hs_o (by decide), tb9_o (Or.inr (by decide))]
                     exact ov q (by omega) k4 (fun e he z => ho e (by omega) (by rw [hs_k (by omega), tb9_o (Or.inr (by decide))]; exact z)))
                | (rcases es4b with es4 | es4
                   · rw [fi9, if_pos es4] at eX
                     have z4 : zb (sg B N (cb9 B N (i + 1) d (stp B N f d).2 (tb9 B N T i f SD)).1 59) = 1 := by rw [es4]; rfl
                     rw [z4]
                     rw [st9_t es4] at t4
                     exact ih (i + 1) (nx B N (cb9 B N (i + 1) d (stp B N f d).2 (tb9 B N T i f SD)).1) (cb9 B N (i + 1) d (stp B N f d).2 (tb9 B N T i f SD)).2.1 (cb9 B N (i + 1) d (stp B N f d).2 (tb9 B N T i f SD)).2.2 (SD ++ vS9 B N f) h4 (by omega) ⟨cr3 h4 _ t4 (nx_b cbb.1).1 (fun x hx => w4.1 x hx) (w4.2 6 (by decide) (by decide) (by decide)) (w4.2 15 (by decide) (by decide) (by decide)), eX, fl4⟩
                   · rw [fi9, if_neg (by rw [es4]; decide), if_neg (fun q => by have := q.1; omega), pit_s (Or.inl rfl)] at eX
                     have z4 : zb (sg B N (cb9 B N (i + 1) d (stp B N f d).2 (tb9 B N T i f SD)).1 59) = 0 := by rw [es4]; rfl
                     rw [z4]
                     rw [st9_f es4] at t4
                     exact k_x47 l h4 _ 0 1 _ (Or.inl rfl) (Or.inr rfl) (Or.inl rfl) (by omega) (by omega) t4.2.1 P (fun _ => hB h4 _ (by rw [← eX]) (by rw [← eX]) fl4) (fun q => absurd q (by decide)))
                | (have nsg : sg B N (cb9 B N (i + 1) d (stp B N f d).2 (tb9 B N T i f SD)).1 59 = false := Bool.eq_false_iff.mpr (fun q => by have := sg_lt (by decide) q; omega)
                   rw [fi9, if_neg (by rw [nsg]; decide), if_pos ⟨by omega, by omega⟩, pit_s (Or.inr rfl)] at eX
                   exact k_x47 l h3 _ 1 0 _ (Or.inr rfl) (Or.inl rfl) (Or.inr rfl) (by omega) (by omega) t3.2.1 P (fun q => absurd q (by decide)) (fun _ => hG h3 _ _ _ _ _ eX.symm (cr3 h3 _ t3 (Nat.le_refl _) (fun _ _ => rfl) rfl rfl) fl3))
                | (have nsg : sg B N (cb9 B N (i + 1) d (stp B N f d).2 (tb9 B N T i f SD)).1 59 = false := Bool.eq_false_iff.mpr (fun q => by have := sg_lt (by decide) q; omega)
                   rw [fi9, if_neg (by rw [nsg]; decide), if_neg (fun q => by have := q.2; omega), pit_s (Or.inl rfl)] at eX
                   exact k_x47 l h3 _ 0 0 _ (Or.inl rfl) (Or.inl rfl) (Or.inl rfl) (by omega) (by omega) t3.2.1 P (fun _ => hB h3 _ (by rw [← eX]) (by rw [← eX]) fl3) (fun q => absurd q (by decide)))
            · show jT _ _ 73 _ _ _ _
              have gd : (stp B N f d).1 = false := by rcases zz with q | q; exact absurd q.1 (by omega); exact q.2
              have gg := g1 gd
              have sqg : stq B N f d i = (false, (stp B N f d).2) := by rw [sq]; exact Prod.ext gd rfl
              have sm := stp_m (d := d) fN gd
              have tbr := tb_rel (B := B) (N := N) (f := f) (SD := SD) tbl f1 gg
              refine tl_aload_n rfl rfl ?_
              refine tl_iload rfl rfl ?_
              refine tl_v1i (c9 := 7) (k_opensB l h1 i c24 (kd9 B N f) gg.1 (by omega) (by omega)) rfl rfl rfl rfl rfl (Nat.le_of_ble_eq_true rfl) (fun z2 h2 p2 => ?_)
              obtain ⟨q2, e2⟩ := p2
              have q2 := q2.symm
              subst q2
              have z2c : (z2 = 1 ∧ kd9 B N f = 4) ∨ (z2 = 0 ∧ kd9 B N f ≠ 4) := by rw [e2]; split; exact Or.inl ⟨rfl, by assumption⟩; exact Or.inr ⟨rfl, by assumption⟩
              refine tl_if_ne (tgt := 132) rfl rfl ⟨by omega, by omega⟩ (fun c6 => ?_) (fun c6 => ?_)
              · skip
                show jT _ _ 132 _ _ _ _
                refine tl_iinc rfl rfl rfl ?_
                refine tl_goto (tgt := 47) rfl rfl ?_
                show jT _ _ 47 _ _ _ _
                -- leaf 2 at 47
                have k4y : kd9 B N f = 4 := by rcases z2c with q | q; exact q.2; exact absurd q.1 (by omega)
                have z0 : z1 = 1 := by omega
                subst z0
                rw [show 25 - i = (25 - (i + 1)) + 1 by omega, pit, pz_4 sqg k4y] at eX
                have gt := gg.2.2.2.2.2.1 k4y
                have d3 : d < 4 := by
                  have sp := stp_4 (B := B) (N := N) (f := f) (d := d) k4y
                  rw [sp] at gd
                  have z := (mvp_g gd).2.1
                  by_cases c : d < 4
                  · exact c
                  · exfalso; (try dsimp only at z); rw [decide_eq_false c, Bool.and_false] at z; exact absurd z (by decide)
                have vs0 : vS9 B N f = [] := by rw [vS9, if_neg (by rw [k4y]; decide)]
                have rl1 := gg.2.2.2.2.1
                rw [vs0, List.append_nil] at rl1
                refine ih (i + 1) (stp B N f d).2 (d + 1) (hs (tb9 B N T i f SD) 5 d (i : Int)) SD h1 (by omega) ⟨⟨t1, s1, gt.2, by omega, by omega, fun q hq => ?_, fun e he => ?_, fun q hq k4 ho => ?_, rl1, by omega⟩, eX, fl1⟩
                · rw [hs_o (by decide), hs_o (by decide), hs_o (by decide), hs_o (by decide)]; exact tbr q hq
                · by_cases ee : e = d
                  · subst ee; rw [hs_s, gt.1]; omega
                  · rw [hs_k ee, f1.2.2.1 e ee, tb9_o (Or.inr (by decide))]; exact op e (by omega)
                · rw [hs_o (by decide)] at k4
                  have qi : q ≠ i := fun z => ho d (by omega) (by rw [hs_s, z])
                  rw [tb9_o (Or.inl qi)] at k4
                  rw [f1.1 369 (by decide) (by omega), hs_o (by decide), tb9_o (Or.inr (by decide))]
                  exact ov q (by omega) k4 (fun e he z => ho e (by omega) (by rw [hs_k (by omega), tb9_o (Or.inr (by decide))]; exact z))
              · show jT _ _ 82 _ _ _ _
                have k4n : kd9 B N f ≠ 4 := by rcases z2c with q | q; exact absurd q.1 (by omega); exact q.2
                refine tl_aload_n rfl rfl ?_
                refine tl_v0v (c9 := 7) (k_closeB l h1 B N (i + 1) (i + 1) d (stp B N f d).2 (tb9 B N T i f SD) d4 t1 (gg.2.2.2.2.2.2 k4n) (fun q hq k4 ho => by have qi : q ≠ i := (fun z => by subst z; rw [tb9_n.1] at k4; exact k4n k4); rw [tb9_o (Or.inl qi)] at k4; rw [f1.1 369 (by decide) (by omega), tb9_o (Or.inr (by decide))]; exact ov q (by omega) k4 (fun e he z => ho e he (by rw [tb9_o (Or.inr (by decide))]; exact z))) (fun e he => by rw [f1.2.2.1 e (by omega), tb9_o (Or.inr (by decide))]; exact op e he) s1) rfl rfl rfl rfl rfl (Nat.le_of_ble_eq_true rfl) (fun h3 p3 => ?_)
                obtain ⟨t3, ed3, ov3, f3, f3b⟩ := p3
                have cbb := cb9_b (B := B) (ns := i + 1) d (stp B N f d).2 (tb9 B N T i f SD) t1.2.2.2
                have fl3 : FL h h3 := ⟨fun x hx => by rw [f3 x (by omega) (by omega)]; exact fl1.1 x hx, fun q hq => by rw [f3b q (by omega) (by omega) (by omega) (by omega)]; exact fl1.2 q hq⟩
                have cr3 : ∀ m9 g9, TK m9 B N g9 → (cb9 B N (i + 1) d (stp B N f d).2 (tb9 B N T i f SD)).1 ≤ g9 → (∀ x, x ≠ 362 → m9 x = h3 x) → m9 362 6 = h3 362 6 → m9 362 15 = h3 362 15 → CRg B N m9 g9 (i + 1) (cb9 B N (i + 1) d (stp B N f d).2 (tb9 B N T i f SD)).2.1 (cb9 B N (i + 1) d (stp B N f d).2 (tb9 B N T i f SD)).2.2 (SD ++ vS9 B N f) := by
                  intro m9 g9 tk9 hg9 hm9 h6 h15
                  refine ⟨tk9, by rw [h6, f3b 6 (by decide) (by decide) (by decide) (by decide)]; exact s1, by rw [h15]; exact ed3, by omega, by omega, fun q hq => ?_, fun e he => ?_, fun q hq k4 ho => by rw [hm9 369 (by decide)]; exact ov3 q hq k4 ho, gg.2.2.2.2.1.of (by rw [hm9 370 (by decide), f3 370 (by decide) (by decide)]) (by rw [hm9 371 (by decide), f3 371 (by decide) (by decide)]), by rw [List.length_append]; omega⟩
                  · rw [cbb.2.2.2 0 (by decide), cbb.2.2.2 1 (by decide), cbb.2.2.2 2 (by decide), cbb.2.2.2 3 (by decide), hm9 365 (by decide), hm9 366 (by decide), hm9 367 (by decide), hm9 368 (by decide), f3 365 (by decide) (by decide), f3 366 (by decide) (by decide), f3 367 (by decide) (by decide), f3 368 (by decide) (by decide)]; exact tbr q hq
                  · rw [cbb.2.2.2 5 (by decide), hm9 372 (by decide), f3 372 (by decide) (by decide), f1.2.2.1 e (by omega), tb9_o (Or.inr (by decide))]; exact op e (by omega)
                rw [show 25 - i = (25 - (i + 1)) + 1 by omega, pit, pz_g sqg k4n] at eX
                refine tl_aload_n rfl rfl ?_
                refine tl_geti (c := 7) (k9 := 3) rfl rfl rfl ?_
                rw [t3.2.1]
                refine tl_aload_n rfl rfl ?_
                show jT _ _ 91 _ _ _ _
                refine tl_getr (c := 7) (k9 := 2) (b := 363) rfl rfl rfl rfl ?_
                refine tl_geti (c := 8) (k9 := 1) rfl rfl rfl ?_
                rw [t3.1.1]
                refine tl_icmp_ge (tgt := 104) rfl rfl ⟨by omega, by omega⟩ ⟨by omega, by omega⟩ (fun c7 => ?_) (fun c7 => ?_)
                · skip
                  refine tl_iconst rfl ?_
                  refine tl_istore_n rfl (Nat.le_of_ble_eq_true rfl) rfl ?_
                  refine tl_iload_n rfl rfl ?_
                  refine tl_if_eq (tgt := 119) rfl rfl ⟨by omega, by omega⟩ (fun c8 => ?_) (fun c8 => ?_)
                  · skip
                    show jT _ _ 119 _ _ _ _
                    refine tl_aload_n rfl rfl ?_
                    refine tl_geti (c := 7) (k9 := 15) rfl rfl rfl ?_
                    rw [ed3]
                    refine tl_if_ne (tgt := 130) rfl rfl ⟨by omega, by omega⟩ (fun c9 => ?_) (fun c9 => ?_)
                    · skip
                      refine tl_iconst rfl ?_
                      refine tl_istore_n rfl (Nat.le_of_ble_eq_true rfl) rfl ?_
                      refine tl_iinc rfl rfl rfl ?_
                      refine tl_goto (tgt := 47) rfl rfl ?_
                      show jT _ _ 47 _ _ _ _
                      -- leaf 3 at 47
                      first
                        | (have bdd : (stp B N f d).1 = true := by rcases zz with q | q; exact q.2; exact absurd q.1 (by omega)
                           have sqb : stq B N f d i = (true, (stp B N f d).2) := by rw [sq]; exact Prod.ext bdd rfl
                           rw [show 25 - i = (25 - (i + 1)) + 1 by omega, pit, pz_b sqb, pit_s (Or.inl rfl)] at eX
                           have z0 : z1 = 0 := by omega
                           subst z0
                           exact k_x47 l h1 _ 0 1 _ (Or.inl rfl) (Or.inr rfl) (Or.inl rfl) (by omega) (by omega) t1.2.1 P (fun _ => hB h1 _ (by rw [← eX]) (by rw [← eX]) fl1) (fun q => absurd q (by decide)))
                        | (have k4y : kd9 B N f = 4 := by rcases z2c with q | q; exact q.2; exact absurd q.1 (by omega)
                           have z0 : z1 = 1 := by omega
                           subst z0
                           rw [show 25 - i = (25 - (i + 1)) + 1 by omega, pit, pz_4 sqg k4y] at eX
                           have gt := gg.2.2.2.2.2.1 k4y
                           have d3 : d < 4 := by
                             have sp := stp_4 (B := B) (N := N) (f := f) (d := d) k4y
                             rw [sp] at gd
                             have z := (mvp_g gd).2.1
                             by_cases c : d < 4
                             · exact c
                             · exfalso; (try dsimp only at z); rw [decide_eq_false c, Bool.and_false] at z; exact absurd z (by decide)
                           have vs0 : vS9 B N f = [] := by rw [vS9, if_neg (by rw [k4y]; decide)]
                           have rl1 := gg.2.2.2.2.1
                           rw [vs0, List.append_nil] at rl1
                           refine ih (i + 1) (stp B N f d).2 (d + 1) (hs (tb9 B N T i f SD) 5 d (i : Int)) SD h1 (by omega) ⟨⟨t1, s1, gt.2, by omega, by omega, fun q hq => ?_, fun e he => ?_, fun q hq k4 ho => ?_, rl1, by omega⟩, eX, fl1⟩
                           · rw [hs_o (by decide), hs_o (by decide), hs_o (by decide), hs_o (by decide)]; exact tbr q hq
                           · by_cases ee : e = d
                             · subst ee; rw [hs_s, gt.1]; omega
                             · rw [hs_k ee, f1.2.2.1 e ee, tb9_o (Or.inr (by decide))]; exact op e (by omega)
                           · rw [hs_o (by decide)] at k4
                             have qi : q ≠ i := fun z => ho d (by omega) (by rw [hs_s, z])
                             rw [tb9_o (Or.inl qi)] at k4
                             rw [f1.1 369 (by decide) (by omega), hs_o (by decide), tb9_o (Or.inr (by decide))]
                             exact ov q (by omega) k4 (fun e he z => ho e (by omega) (by rw [hs_k (by omega), tb9_o (Or.inr (by decide))]; exact z)))
                        | (rcases es4b with es4 | es4
                           · rw [fi9, if_pos es4] at eX
                             have z4 : zb (sg B N (cb9 B N (i + 1) d (stp B N f d).2 (tb9 B N T i f SD)).1 59) = 1 := by rw [es4]; rfl
                             rw [z4]
                             rw [st9_t es4] at t4
                             exact ih (i + 1) (nx B N (cb9 B N (i + 1) d (stp B N f d).2 (tb9 B N T i f SD)).1) (cb9 B N (i + 1) d (stp B N f d).2 (tb9 B N T i f SD)).2.1 (cb9 B N (i + 1) d (stp B N f d).2 (tb9 B N T i f SD)).2.2 (SD ++ vS9 B N f) h4 (by omega) ⟨cr3 h4 _ t4 (nx_b cbb.1).1 (fun x hx => w4.1 x hx) (w4.2 6 (by decide) (by decide) (by decide)) (w4.2 15 (by decide) (by decide) (by decide)), eX, fl4⟩
                           · rw [fi9, if_neg (by rw [es4]; decide), if_neg (fun q => by have := q.1; omega), pit_s (Or.inl rfl)] at eX
                             have z4 : zb (sg B N (cb9 B N (i + 1) d (stp B N f d).2 (tb9 B N T i f SD)).1 59) = 0 := by rw [es4]; rfl
                             rw [z4]
                             rw [st9_f es4] at t4
                             exact k_x47 l h4 _ 0 1 _ (Or.inl rfl) (Or.inr rfl) (Or.inl rfl) (by omega) (by omega) t4.2.1 P (fun _ => hB h4 _ (by rw [← eX]) (by rw [← eX]) fl4) (fun q => absurd q (by decide)))
                        | (have nsg : sg B N (cb9 B N (i + 1) d (stp B N f d).2 (tb9 B N T i f SD)).1 59 = false := Bool.eq_false_iff.mpr (fun q => by have := sg_lt (by decide) q; omega)
                           rw [fi9, if_neg (by rw [nsg]; decide), if_pos ⟨by omega, by omega⟩, pit_s (Or.inr rfl)] at eX
                           exact k_x47 l h3 _ 1 0 _ (Or.inr rfl) (Or.inl rfl) (Or.inr rfl) (by omega) (by omega) t3.2.1 P (fun q => absurd q (by decide)) (fun _ => hG h3 _ _ _ _ _ eX.symm (cr3 h3 _ t3 (Nat.le_refl _) (fun _ _ => rfl) rfl rfl) fl3))
                        | (have nsg : sg B N (cb9 B N (i + 1) d (stp B N f d).2 (tb9 B N T i f SD)).1 59 = false := Bool.eq_false_iff.mpr (fun q => by have := sg_lt (by decide) q; omega)
                           rw [fi9, if_neg (by rw [nsg]; decide), if_neg (fun q => by have := q.2; omega), pit_s (Or.inl rfl)] at eX
                           exact k_x47 l h3 _ 0 0 _ (Or.inl rfl) (Or.inl rfl) (Or.inl rfl) (by omega) (by omega) t3.2.1 P (fun _ => hB h3 _ (by rw [← eX]) (by rw [← eX]) fl3) (fun q => absurd q (by decide)))
                    · show jT _ _ 126 _ _ _ _
                      show jT _ _ 126 _ _ _ _
                      refine tl_iconst rfl ?_
                      refine tl_goto (tgt := 131) rfl rfl ?_
                      refine tl_istore_n rfl (Nat.le_of_ble_eq_true rfl) rfl ?_
                      refine tl_iinc rfl rfl rfl ?_
                      refine tl_goto (tgt := 47) rfl rfl ?_
                      show jT _ _ 47 _ _ _ _
                      -- leaf 4 at 47
                      first
                        | (have bdd : (stp B N f d).1 = true := by rcases zz with q | q; exact q.2; exact absurd q.1 (by omega)
                           have sqb : stq B N f d i = (true, (stp B N f d).2) := by rw [sq]; exact Prod.ext bdd rfl
                           rw [show 25 - i = (25 - (i + 1)) + 1 by omega, pit, pz_b sqb, pit_s (Or.inl rfl)] at eX
                           have z0 : z1 = 0 := by omega
                           subst z0
                           exact k_x47 l h1 _ 0 1 _ (Or.inl rfl) (Or.inr rfl) (Or.inl rfl) (by omega) (by omega) t1.2.1 P (fun _ => hB h1 _ (by rw [← eX]) (by rw [← eX]) fl1) (fun q => absurd q (by decide)))
                        | (have k4y : kd9 B N f = 4 := by rcases z2c with q | q; exact q.2; exact absurd q.1 (by omega)
                           have z0 : z1 = 1 := by omega
                           subst z0
                           rw [show 25 - i = (25 - (i + 1)) + 1 by omega, pit, pz_4 sqg k4y] at eX
                           have gt := gg.2.2.2.2.2.1 k4y
                           have d3 : d < 4 := by
                             have sp := stp_4 (B := B) (N := N) (f := f) (d := d) k4y
                             rw [sp] at gd
                             have z := (mvp_g gd).2.1
                             by_cases c : d < 4
                             · exact c
                             · exfalso; (try dsimp only at z); rw [decide_eq_false c, Bool.and_false] at z; exact absurd z (by decide)
                           have vs0 : vS9 B N f = [] := by rw [vS9, if_neg (by rw [k4y]; decide)]
                           have rl1 := gg.2.2.2.2.1
                           rw [vs0, List.append_nil] at rl1
                           refine ih (i + 1) (stp B N f d).2 (d + 1) (hs (tb9 B N T i f SD) 5 d (i : Int)) SD h1 (by omega) ⟨⟨t1, s1, gt.2, by omega, by omega, fun q hq => ?_, fun e he => ?_, fun q hq k4 ho => ?_, rl1, by omega⟩, eX, fl1⟩
                           · rw [hs_o (by decide), hs_o (by decide), hs_o (by decide), hs_o (by decide)]; exact tbr q hq
                           · by_cases ee : e = d
                             · subst ee; rw [hs_s, gt.1]; omega
                             · rw [hs_k ee, f1.2.2.1 e ee, tb9_o (Or.inr (by decide))]; exact op e (by omega)
                           · rw [hs_o (by decide)] at k4
                             have qi : q ≠ i := fun z => ho d (by omega) (by rw [hs_s, z])
                             rw [tb9_o (Or.inl qi)] at k4
                             rw [f1.1 369 (by decide) (by omega), hs_o (by decide), tb9_o (Or.inr (by decide))]
                             exact ov q (by omega) k4 (fun e he z => ho e (by omega) (by rw [hs_k (by omega), tb9_o (Or.inr (by decide))]; exact z)))
                        | (rcases es4b with es4 | es4
                           · rw [fi9, if_pos es4] at eX
                             have z4 : zb (sg B N (cb9 B N (i + 1) d (stp B N f d).2 (tb9 B N T i f SD)).1 59) = 1 := by rw [es4]; rfl
                             rw [z4]
                             rw [st9_t es4] at t4
                             exact ih (i + 1) (nx B N (cb9 B N (i + 1) d (stp B N f d).2 (tb9 B N T i f SD)).1) (cb9 B N (i + 1) d (stp B N f d).2 (tb9 B N T i f SD)).2.1 (cb9 B N (i + 1) d (stp B N f d).2 (tb9 B N T i f SD)).2.2 (SD ++ vS9 B N f) h4 (by omega) ⟨cr3 h4 _ t4 (nx_b cbb.1).1 (fun x hx => w4.1 x hx) (w4.2 6 (by decide) (by decide) (by decide)) (w4.2 15 (by decide) (by decide) (by decide)), eX, fl4⟩
                           · rw [fi9, if_neg (by rw [es4]; decide), if_neg (fun q => by have := q.1; omega), pit_s (Or.inl rfl)] at eX
                             have z4 : zb (sg B N (cb9 B N (i + 1) d (stp B N f d).2 (tb9 B N T i f SD)).1 59) = 0 := by rw [es4]; rfl
                             rw [z4]
                             rw [st9_f es4] at t4
                             exact k_x47 l h4 _ 0 1 _ (Or.inl rfl) (Or.inr rfl) (Or.inl rfl) (by omega) (by omega) t4.2.1 P (fun _ => hB h4 _ (by rw [← eX]) (by rw [← eX]) fl4) (fun q => absurd q (by decide)))
                        | (have nsg : sg B N (cb9 B N (i + 1) d (stp B N f d).2 (tb9 B N T i f SD)).1 59 = false := Bool.eq_false_iff.mpr (fun q => by have := sg_lt (by decide) q; omega)
                           rw [fi9, if_neg (by rw [nsg]; decide), if_pos ⟨by omega, by omega⟩, pit_s (Or.inr rfl)] at eX
                           exact k_x47 l h3 _ 1 0 _ (Or.inr rfl) (Or.inl rfl) (Or.inr rfl) (by omega) (by omega) t3.2.1 P (fun q => absurd q (by decide)) (fun _ => hG h3 _ _ _ _ _ eX.symm (cr3 h3 _ t3 (Nat.le_refl _) (fun _ _ => rfl) rfl rfl) fl3))
                        | (have nsg : sg B N (cb9 B N (i + 1) d (stp B N f d).2 (tb9 B N T i f SD)).1 59 = false := Bool.eq_false_iff.mpr (fun q => by have := sg_lt (by decide) q; omega)
                           rw [fi9, if_neg (by rw [nsg]; decide), if_neg (fun q => by have := q.2; omega), pit_s (Or.inl rfl)] at eX
                           exact k_x47 l h3 _ 0 0 _ (Or.inl rfl) (Or.inl rfl) (Or.inl rfl) (by omega) (by omega) t3.2.1 P (fun _ => hB h3 _ (by rw [← eX]) (by rw [← eX]) fl3) (fun q => absurd q (by decide)))
                  · show jT _ _ 110 _ _ _ _
                    exfalso; omega
                · show jT _ _ 100 _ _ _ _
                  refine tl_iconst rfl ?_
                  refine tl_goto (tgt := 105) rfl rfl ?_
                  show jT _ _ 105 _ _ _ _
                  refine tl_istore_n rfl (Nat.le_of_ble_eq_true rfl) rfl ?_
                  refine tl_iload_n rfl rfl ?_
                  refine tl_if_eq (tgt := 119) rfl rfl ⟨by omega, by omega⟩ (fun c10 => ?_) (fun c10 => ?_)
                  · skip
                    exfalso; omega
                  · show jT _ _ 110 _ _ _ _
                    refine tl_aload_n rfl rfl ?_
                    refine tl_bipush rfl rfl ?_
                    refine tl_v1i (c9 := 7) (k_isSgn l h3 B N (cb9 B N (i + 1) d (stp B N f d).2 (tb9 B N T i f SD)).1 t3 59 (by decide) (by decide)) rfl rfl rfl rfl rfl (Nat.le_of_ble_eq_true rfl) (fun z4 h4 p4 => ?_)
                    obtain ⟨e4, t4, w4, _⟩ := p4
                    have b4 := zb_b (sg B N (cb9 B N (i + 1) d (stp B N f d).2 (tb9 B N T i f SD)).1 59)
                    subst e4
                    have fl4 : FL h h4 := ⟨fun x hx => by rw [w4.1 x (by omega)]; exact fl3.1 x hx, fun q hq => by rw [w4.2 q (by omega) (by omega) (by omega)]; exact fl3.2 q hq⟩
                    have es4b := Bool.eq_false_or_eq_true (sg B N (cb9 B N (i + 1) d (stp B N f d).2 (tb9 B N T i f SD)).1 59)
                    refine tl_goto (tgt := 131) rfl rfl ?_
                    show jT _ _ 131 _ _ _ _
                    refine tl_istore_n rfl (Nat.le_of_ble_eq_true rfl) rfl ?_
                    refine tl_iinc rfl rfl rfl ?_
                    refine tl_goto (tgt := 47) rfl rfl ?_
                    show jT _ _ 47 _ _ _ _
                    -- leaf 5 at 47
                    first
                      | (have bdd : (stp B N f d).1 = true := by rcases zz with q | q; exact q.2; exact absurd q.1 (by omega)
                         have sqb : stq B N f d i = (true, (stp B N f d).2) := by rw [sq]; exact Prod.ext bdd rfl
                         rw [show 25 - i = (25 - (i + 1)) + 1 by omega, pit, pz_b sqb, pit_s (Or.inl rfl)] at eX
                         have z0 : z1 = 0 := by omega
                         subst z0
                         exact k_x47 l h1 _ 0 1 _ (Or.inl rfl) (Or.inr rfl) (Or.inl rfl) (by omega) (by omega) t1.2.1 P (fun _ => hB h1 _ (by rw [← eX]) (by rw [← eX]) fl1) (fun q => absurd q (by decide)))
                      | (have k4y : kd9 B N f = 4 := by rcases z2c with q | q; exact q.2; exact absurd q.1 (by omega)
                         have z0 : z1 = 1 := by omega
                         subst z0
                         rw [show 25 - i = (25 - (i + 1)) + 1 by omega, pit, pz_4 sqg k4y] at eX
                         have gt := gg.2.2.2.2.2.1 k4y
                         have d3 : d < 4 := by
                           have sp := stp_4 (B := B) (N := N) (f := f) (d := d) k4y
                           rw [sp] at gd
                           have z := (mvp_g gd).2.1
                           by_cases c : d < 4
                           · exact c
                           · exfalso; (try dsimp only at z); rw [decide_eq_false c, Bool.and_false] at z; exact absurd z (by decide)
                         have vs0 : vS9 B N f = [] := by rw [vS9, if_neg (by rw [k4y]; decide)]
                         have rl1 := gg.2.2.2.2.1
                         rw [vs0, List.append_nil] at rl1
                         refine ih (i + 1) (stp B N f d).2 (d + 1) (hs (tb9 B N T i f SD) 5 d (i : Int)) SD h1 (by omega) ⟨⟨t1, s1, gt.2, by omega, by omega, fun q hq => ?_, fun e he => ?_, fun q hq k4 ho => ?_, rl1, by omega⟩, eX, fl1⟩
                         · rw [hs_o (by decide), hs_o (by decide), hs_o (by decide), hs_o (by decide)]; exact tbr q hq
                         · by_cases ee : e = d
                           · subst ee; rw [hs_s, gt.1]; omega
                           · rw [hs_k ee, f1.2.2.1 e ee, tb9_o (Or.inr (by decide))]; exact op e (by omega)
                         · rw [hs_o (by decide)] at k4
                           have qi : q ≠ i := fun z => ho d (by omega) (by rw [hs_s, z])
                           rw [tb9_o (Or.inl qi)] at k4
                           rw [f1.1 369 (by decide) (by omega), hs_o (by decide), tb9_o (Or.inr (by decide))]
                           exact ov q (by omega) k4 (fun e he z => ho e (by omega) (by rw [hs_k (by omega), tb9_o (Or.inr (by decide))]; exact z)))
                      | (rcases es4b with es4 | es4
                         · rw [fi9, if_pos es4] at eX
                           have z4 : zb (sg B N (cb9 B N (i + 1) d (stp B N f d).2 (tb9 B N T i f SD)).1 59) = 1 := by rw [es4]; rfl
                           rw [z4]
                           rw [st9_t es4] at t4
                           exact ih (i + 1) (nx B N (cb9 B N (i + 1) d (stp B N f d).2 (tb9 B N T i f SD)).1) (cb9 B N (i + 1) d (stp B N f d).2 (tb9 B N T i f SD)).2.1 (cb9 B N (i + 1) d (stp B N f d).2 (tb9 B N T i f SD)).2.2 (SD ++ vS9 B N f) h4 (by omega) ⟨cr3 h4 _ t4 (nx_b cbb.1).1 (fun x hx => w4.1 x hx) (w4.2 6 (by decide) (by decide) (by decide)) (w4.2 15 (by decide) (by decide) (by decide)), eX, fl4⟩
                         · rw [fi9, if_neg (by rw [es4]; decide), if_neg (fun q => by have := q.1; omega), pit_s (Or.inl rfl)] at eX
                           have z4 : zb (sg B N (cb9 B N (i + 1) d (stp B N f d).2 (tb9 B N T i f SD)).1 59) = 0 := by rw [es4]; rfl
                           rw [z4]
                           rw [st9_f es4] at t4
                           exact k_x47 l h4 _ 0 1 _ (Or.inl rfl) (Or.inr rfl) (Or.inl rfl) (by omega) (by omega) t4.2.1 P (fun _ => hB h4 _ (by rw [← eX]) (by rw [← eX]) fl4) (fun q => absurd q (by decide)))
                      | (have nsg : sg B N (cb9 B N (i + 1) d (stp B N f d).2 (tb9 B N T i f SD)).1 59 = false := Bool.eq_false_iff.mpr (fun q => by have := sg_lt (by decide) q; omega)
                         rw [fi9, if_neg (by rw [nsg]; decide), if_pos ⟨by omega, by omega⟩, pit_s (Or.inr rfl)] at eX
                         exact k_x47 l h3 _ 1 0 _ (Or.inr rfl) (Or.inl rfl) (Or.inr rfl) (by omega) (by omega) t3.2.1 P (fun q => absurd q (by decide)) (fun _ => hG h3 _ _ _ _ _ eX.symm (cr3 h3 _ t3 (Nat.le_refl _) (fun _ _ => rfl) rfl rfl) fl3))
                      | (have nsg : sg B N (cb9 B N (i + 1) d (stp B N f d).2 (tb9 B N T i f SD)).1 59 = false := Bool.eq_false_iff.mpr (fun q => by have := sg_lt (by decide) q; omega)
                         rw [fi9, if_neg (by rw [nsg]; decide), if_neg (fun q => by have := q.2; omega), pit_s (Or.inl rfl)] at eX
                         exact k_x47 l h3 _ 0 0 _ (Or.inl rfl) (Or.inl rfl) (Or.inl rfl) (by omega) (by omega) t3.2.1 P (fun _ => hB h3 _ (by rw [← eX]) (by rw [← eX]) fl3) (fun q => absurd q (by decide)))
    · skip
      refine tl_iload rfl rfl ?_
      refine tl_bipush rfl rfl ?_
      refine tl_icmp_gt (tgt := 138) rfl rfl ⟨by omega, by omega⟩ ⟨by omega, by omega⟩ (fun c1 => ?_) (fun c1 => ?_)
      · skip
        refine tl_aload_n rfl rfl ?_
        refine tl_iload_n rfl rfl ?_
        refine tl_if_eq (tgt := 147) rfl rfl ⟨by omega, by omega⟩ (fun c2 => ?_) (fun c2 => ?_)
        · skip
          exfalso; omega
        · show jT _ _ 143 _ _ _ _
          show jT _ _ 143 _ _ _ _
          refine tl_iconst rfl ?_
          refine tl_goto (tgt := 151) rfl rfl ?_
          refine tl_puti (c := 7) (k9 := 0) rfl rfl rfl rfl ?_
          refine tl_iload_n rfl rfl ?_
          refine tl_iret rfl ?_
          -- leaf 0 at 155
          exfalso; omega
      · show jT _ _ 54 _ _ _ _
        refine tl_iload_n rfl rfl ?_
        refine tl_if_eq (tgt := 138) rfl rfl ⟨by omega, by omega⟩ (fun c3 => ?_) (fun c3 => ?_)
        · skip
          exfalso; omega
        · show jT _ _ 58 _ _ _ _
          show jT _ _ 58 _ _ _ _
          refine tl_iload_n rfl rfl ?_
          refine tl_if_eq (tgt := 138) rfl rfl ⟨by omega, by omega⟩ (fun c4 => ?_) (fun c4 => ?_)
          · skip
            exfalso; omega
          · show jT _ _ 62 _ _ _ _
            refine tl_aload_n rfl rfl ?_
            refine tl_iload rfl rfl ?_
            refine tl_v1i (c9 := 7) (k_readStepX l mem (i : Int) (by omega) (by omega)) rfl rfl rfl rfl rfl (Nat.le_of_ble_eq_true rfl) (fun z1 h1 p1 => ?_)
            obtain ⟨q1, rfl⟩ := p1
            have q1 := q1.symm
            subst q1
            refine tl_istore_n rfl (Nat.le_of_ble_eq_true rfl) rfl ?_
            refine tl_iload_n rfl rfl ?_
            show jT _ _ 70 _ _ _ _
            refine tl_if_eq (tgt := 132) rfl rfl ⟨by omega, by omega⟩ (fun c5 => ?_) (fun c5 => ?_)
            · skip
              refine tl_iinc rfl rfl rfl ?_
              refine tl_goto (tgt := 47) rfl rfl ?_
              show jT _ _ 47 _ _ _ _
              -- leaf 1 at 47
              have sq : stq B N f d i = (true, f) := by rw [stq, if_neg (by omega)]
              rw [show 25 - i = (25 - (i + 1)) + 1 by omega, pit, pz_b sq] at eX
              rw [pit_s (Or.inl rfl)] at eX
              exact k_x47 l mem f 0 1 _ (Or.inl rfl) (Or.inr rfl) (Or.inl rfl) (by omega) (by omega) tk.2.1 P (fun _ => hB mem f (by rw [← eX]) (by rw [← eX]) fr) (fun q => absurd q (by decide))
            · show jT _ _ 73 _ _ _ _
              exfalso; omega
