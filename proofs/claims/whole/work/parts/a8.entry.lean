/-! the start: what both hold at first, the memory as it is told, the entry of the law -/
theorem rfN_lt {g : Nat → Nat} : ∀ k j, j < k → rfN g k j = some (g j) := by
  intro k
  induction k with
  | zero => intro j h; omega
  | succ k ih =>
    intro j h
    show (if j = k then some (g k) else rfN g k j) = some (g j)
    by_cases e : j = k
    · rw [if_pos e, e]
    · rw [if_neg e]; exact ih j (by omega)
theorem sk_999 {i : Nat} (q : 434 ≤ i) : sk i = 999 := by
  unfold sk
  rw [show Nat.ble 186 i = true from Nat.ble_eq_true_of_le (by omega), show Nat.ble 279 i = true from Nat.ble_eq_true_of_le (by omega), show Nat.ble 336 i = true from Nat.ble_eq_true_of_le (by omega), show Nat.ble 364 i = true from Nat.ble_eq_true_of_le (by omega), show Nat.ble 381 i = true from Nat.ble_eq_true_of_le (by omega), show Nat.ble 387 i = true from Nat.ble_eq_true_of_le (by omega), show Nat.ble 419 i = true from Nat.ble_eq_true_of_le (by omega), show Nat.ble 420 i = true from Nat.ble_eq_true_of_le (by omega), show Nat.ble 434 i = true from Nat.ble_eq_true_of_le (by omega)]
  simp only [cond_true]
theorem jm_none {h : jH} {i : Nat} (q : 434 ≤ i) (q2 : i < 1000000) : jm h i = jJ := by
  unfold jm
  rw [show Nat.ble 1000000 i = false from Bool.eq_false_iff.mpr fun z => by have := Nat.le_of_ble_eq_true z; omega, sk_999 q]
  rfl
theorem jn_hi {h : jH} {i : Nat} (q : 434 ≤ i) : jn h i = jm h i := by
  unfold jn
  rw [show Nat.ble 434 i = true from Nat.ble_eq_true_of_le q]
  rfl
theorem jn_16 {h : jH} {i : Nat} (q : i < 434) (e : sk i = 16) : jn h i = .inl (16, 3, .inr (.inr (.inr (.inr (rfN (sr i) 3))))) := by
  unfold jn
  rw [show Nat.ble 434 i = false from Bool.eq_false_iff.mpr fun z => by have := Nat.le_of_ble_eq_true z; omega, e]
  rfl
theorem jn_17 {h : jH} {i : Nat} (q : i < 434) (e : sk i = 17) : jn h i = .inl (17, 16, .inr (.inr (.inr (.inr (rfN (sr i) 16))))) := by
  unfold jn
  rw [show Nat.ble 434 i = false from Bool.eq_false_iff.mpr fun z => by have := Nat.le_of_ble_eq_true z; omega, e]
  rfl
theorem jn_o {h : jH} {i : Nat} (e : sk i ≠ 16) (e2 : sk i ≠ 17) : jn h i = jm h i := by
  unfold jn
  rw [show Nat.beq (sk i) 16 = false from Bool.eq_false_iff.mpr fun z => e (Nat.eq_of_beq_eq_true z), show Nat.beq (sk i) 17 = false from Bool.eq_false_iff.mpr fun z => e2 (Nat.eq_of_beq_eq_true z)]
  cases Nat.ble 434 i <;> rfl
theorem sl_16 : ∀ i, i < 434 → (sk i = 16 → sl i = 3) ∧ (sk i = 17 → sl i = 16) := by decide +kernel
theorem arrV_c {c : ClassId} {N : Nat} {f g : Nat → Value} (h : ∀ j, j < N → f j = g j) : arrV c N f = arrV c N g := by
  unfold arrV
  have e : (fun j : Fin N => f j.val) = fun j : Fin N => g j.val := funext fun j => h j.val j.isLt
  rw [e]
theorem jn_at {D : va_G} {cl : List vw_C} {a : Nat} {ad : Nat → Nat} {dA : Nat → ClassId} {h : jH} {i : Nat} {H : Heap} (hi : i < 434) (o : va_at D cl (a, jcell ad dA (jn h i)) H) : va_at D cl (a, jcell ad dA (jm h i)) H := by
  by_cases e : sk i = 16
  · rw [jn_16 hi e] at o
    rw [jm_ref e (Or.inl rfl), (sl_16 i hi).1 e]
    have o2 : H[a]? = some (arrV (dA 16) 3 (fun j => va_rf ((rfN (sr i) 3 j).map ad))) := o
    show H[a]? = some (arrV (dA 16) 3 (fun j => va_rf ((some (sr i j)).map ad)))
    rw [o2, arrV_c (g := fun j => va_rf ((some (sr i j)).map ad)) (fun j hj => by rw [rfN_lt 3 j hj])]
  · by_cases e2 : sk i = 17
    · rw [jn_17 hi e2] at o
      rw [jm_ref e2 (Or.inr rfl), (sl_16 i hi).2 e2]
      have o2 : H[a]? = some (arrV (dA 17) 16 (fun j => va_rf ((rfN (sr i) 16 j).map ad))) := o
      show H[a]? = some (arrV (dA 17) 16 (fun j => va_rf ((some (sr i j)).map ad)))
      rw [o2, arrV_c (g := fun j => va_rf ((some (sr i j)).map ad)) (fun j hj => by rw [rfN_lt 16 j hj])]
    · rw [jn_o e e2] at o; exact o
theorem je_fin {l : Launch} {j pc : Nat} {L : jLo} {st : List Value} {h : jH} {v : Option Value} {G' : jG} (k : jE l j pc L st (jT0 h) v G') : jE l j pc L st (mkL h [] 434 58835) v G' := by
  intro p e R s m args below meth c D dA base ro N0 S0 Q ls H locs cells slots hC hc hs hend hL hI
  refine k p e R s m args below meth c D dA base ro N0 S0 Q ls H locs cells slots hC hc hs hend hL ?_
  obtain ⟨i1, i2, i3, i4, i5, i6, i7, i8⟩ := hI
  refine ⟨fun kk q hq => ?_, i2, i3, i4, i5, fun i a b => jm_none a b, i7, fun i hi => ?_⟩
  · by_cases hk : kk < 434
    · have g := jWs_get (dA := dA) (base := base) (ro := ro) (G := jT0 h) (i := kk) hk
      have hq2 := Option.some.inj (g.symm.trans hq)
      subst hq2
      have o := i1 kk _ (jWs_get (dA := dA) (base := base) (ro := ro) (G := mkL h [] 434 58835) (i := kk) hk)
      rw [mkL_b rfl (Or.inl hk)] at o
      exact jn_at hk o
    · exfalso
      rw [List.getElem?_eq_none (by simp [jWs, jT0, jNc]; omega)] at hq
      cases hq
  · have z := i8 i hi
    rw [mkL_b rfl (Or.inr hi), jn_hi (by omega)] at z
    exact z
section IC0
variable {L : Int} {xs : Nat → Int}
theorem h390 {k : Nat} (h5 : 5 ≤ k) (h1 : k ≠ 200) (h2 : k ≠ 501) (h3 : k ≠ 802) : h0 L xs 390 k = 0 := by
  show (bif Nat.beq k 200 || (Nat.beq k 501 || Nat.beq k 802) then (-1 : Int) else [3, 1, 1, 1, 2].getD k 0) = 0
  rw [show Nat.beq k 200 = false from Bool.eq_false_iff.mpr (fun z => h1 (Nat.eq_of_beq_eq_true z)), show Nat.beq k 501 = false from Bool.eq_false_iff.mpr (fun z => h2 (Nat.eq_of_beq_eq_true z)), show Nat.beq k 802 = false from Bool.eq_false_iff.mpr (fun z => h3 (Nat.eq_of_beq_eq_true z))]
  match k, h5 with
  | k + 5, _ => rfl
theorem h0_z {i k : Nat} (a : i ≠ 1000000) (b : i ≠ 1000001) (c : i ≠ 311) (d : i ≠ 362) (e : i ≠ 377) (f : i ≠ 388) (g : i ≠ 390) : h0 L xs i k = 0 := by
  have F : ∀ q, i ≠ q → Nat.beq i q = false := fun q hq => Bool.eq_false_iff.mpr (fun z => hq (Nat.eq_of_beq_eq_true z))
  show (bif Nat.beq i 1000000 then xs k else bif Nat.beq i 1000001 then L else h00 i k) = 0
  rw [F _ a, F _ b]
  show h00 i k = 0
  unfold h00
  rw [F _ c, F _ d, F _ e, F _ f, F _ g]
  rfl
theorem ic_0 : IC (h0 L xs) (h0 L xs) 0 := by
  refine ⟨⟨fun f hf => ?_, fun k hk => ?_, fun i hi => ?_, ?_⟩, ?_, ?_, ?_⟩
  · rcases (show f = 0 ∨ f = 1 ∨ f = 2 by omega) with rfl | rfl | rfl
    · have e : h0 L xs 390 (5 + 65 * 0) = 0 := rfl
      exact ⟨rfl, by rw [e]; decide, by rw [e]; decide, fun i hi => by rw [e] at hi; omega⟩
    · have e : h0 L xs 390 (5 + 65 * 1) = 0 := rfl
      exact ⟨rfl, by rw [e]; decide, by rw [e]; decide, fun i hi => by rw [e] at hi; omega⟩
    · have e : h0 L xs 390 (5 + 65 * 2) = 0 := rfl
      exact ⟨rfl, by rw [e]; decide, by rw [e]; decide, fun i hi => by rw [e] at hi; omega⟩
  · rcases (show k = 0 ∨ k = 1 ∨ k = 2 by omega) with rfl | rfl | rfl
    · have e : h0 L xs 390 (200 + 301 * 0) = -1 := rfl
      exact ⟨by rw [e]; rfl, Or.inl e, fun i hi => by rw [e] at hi; omega⟩
    · have e : h0 L xs 390 (200 + 301 * 1) = -1 := rfl
      exact ⟨by rw [e]; rfl, Or.inl e, fun i hi => by rw [e] at hi; omega⟩
    · have e : h0 L xs 390 (200 + 301 * 2) = -1 := rfl
      exact ⟨by rw [e]; rfl, Or.inl e, fun i hi => by rw [e] at hi; omega⟩
  · rw [h390 (by omega) (by omega) (by omega) (by omega)]
    exact ⟨rfl, Or.inl rfl⟩
  · have e : h0 L xs 390 1167 = 0 := rfl
    refine ⟨Or.inl e, ⟨by show (-2147483648 : Int) ≤ 0; decide, by show (0 : Int) < 2147483648; decide⟩, ⟨by show (-2147483648 : Int) ≤ 0; decide, by show (0 : Int) < 2147483648; decide⟩, fun _ => by show (0 : Int) ≤ 0; decide, fun q => by rw [e] at q; exact absurd q (by decide)⟩
  · have e : h0 L xs 388 6 = 0 := rfl
    exact ⟨rfl, by rw [e]; decide, by rw [e]; decide, by show (0 : Int) ≤ 0; decide, by show (0 : Int) < 16; decide, fun k hk => by rw [e] at hk; omega⟩
  · have e : h0 L xs 388 8 = 0 := rfl
    exact ⟨rfl, by rw [e]; decide, by rw [e]; decide, fun k hk => by rw [e] at hk; omega⟩
  · have j0 : jr 0 := jr_0
    have j1 : jr (-1) := ⟨by decide, by decide⟩
    refine ⟨fun k hk => ?_, fun k hk => ?_, rfl, j0, rfl, by show (0 : Int) ≤ 0; decide, by show (0 : Int) ≤ 7; decide, rfl, j0, rfl, j0, rfl, j1, rfl, j1⟩
    · rcases (show k = 0 ∨ k = 1 ∨ k = 2 ∨ k = 3 ∨ k = 4 by omega) with rfl | rfl | rfl | rfl | rfl
      · exact ⟨rfl, by show (2 : Int) ≤ 3; decide, by show (3 : Int) ≤ 9; decide⟩
      · exact ⟨rfl, by show (0 : Int) ≤ 1; decide, by show (1 : Int) ≤ 9; decide⟩
      · exact ⟨rfl, by show (1 : Int) ≤ 1; decide, by show (1 : Int) ≤ 9; decide⟩
      · exact ⟨rfl, by show (0 : Int) ≤ 1; decide, by show (1 : Int) ≤ 9; decide⟩
      · exact ⟨rfl, by show (1 : Int) ≤ 2; decide, by show (2 : Int) ≤ 6; decide⟩
    · exact ⟨rfl, by show (0 : Int) ≤ 0; decide, by show (0 : Int) ≤ 0; decide⟩
end IC0
theorem lw_E (l : Launch) (L : Int) (xs : Nat → Int) (L0 : 0 ≤ L) (L9 : L ≤ 3072) (hxs : ∀ q, jr (xs q)) : ∃ h', jE l 359 0 [some (.ref 1000000), none, none, none] [] (mkL (h0 L xs) [] 0 0) (some (.int (jI 1))) (jT0 h') := by
  have hT := lw_lp l (fun v _ => v = some (.int (jI 1))) (fun _ => rfl) ((h0 L xs 1000001 0).toNat + 7) 0 (h0 L xs) 0 (by omega) ic_0 hxs L0 L9 (by omega)
  obtain ⟨v, h', hv, hE⟩ := hT
  subst hv
  refine ⟨h', ?_⟩
  refine xl_new (K := 20) (T := 20) rfl rfl rfl rfl (Nat.le_of_ble_eq_true rfl) (Nat.le_of_ble_eq_true rfl) (Nat.le_of_ble_eq_true rfl) ?_
  refine je_dup rfl rfl ?_
  show jE _ _ 4 _ _ _ _ _
  refine je_callI (as := []) (rest := [.ref 0]) rfl (by omega) rfl (ci_11 l L xs) rfl (Nat.le_of_ble_eq_true rfl) (Nat.le_of_ble_eq_true rfl) (Nat.le_of_ble_eq_true rfl) rfl ?_
  show jE _ _ 7 _ _ _ _ _
  refine je_astore_n rfl (Nat.le_of_ble_eq_true rfl) rfl ?_
  show jE _ _ 8 _ _ _ _ _
  refine xl_new (K := 85) (T := 30330) rfl rfl rfl rfl (Nat.le_of_ble_eq_true rfl) (Nat.le_of_ble_eq_true rfl) (Nat.le_of_ble_eq_true rfl) ?_
  refine je_dup rfl rfl ?_
  show jE _ _ 12 _ _ _ _ _
  refine je_callI (as := []) (rest := [.ref 388]) rfl (by omega) rfl (ci_12 l L xs) rfl (Nat.le_of_ble_eq_true rfl) (Nat.le_of_ble_eq_true rfl) (Nat.le_of_ble_eq_true rfl) rfl ?_
  show jE _ _ 15 _ _ _ _ _
  refine je_astore_n rfl (Nat.le_of_ble_eq_true rfl) rfl ?_
  refine je_iconst rfl ?_
  refine je_istore_n rfl (Nat.le_of_ble_eq_true rfl) rfl ?_
  show jE _ _ 18 _ _ _ _ _
  exact je_fin hE
