/-! recipes: a step, of the reference -/
def FZx (k : Nat) (h h' : jH) : Prop := (∀ x, x ≠ 388 → (x < 421 ∨ 423 < x) → h' x = h x) ∧ (∀ x, 421 ≤ x → x ≤ 423 → ∀ q, q ≠ k → h' x q = h x q) ∧ ∀ q, (q < 55 ∨ 60 < q) → h' 388 q = h 388 q
theorem FZx.rfl9 {k : Nat} {h : jH} : FZx k h h := ⟨fun _ _ _ => rfl, fun _ _ _ _ _ => rfl, fun _ _ => rfl⟩
theorem FZx.fb {k : Nat} {a b c : jH} (h1 : FZx k a b) (h2 : FBx b c) : FZx k a c := ⟨fun x x1 x2 => (h2.1 x x1).trans (h1.1 x x1 x2), fun x x1 x2 q q1 => by rw [h2.1 x (by omega)]; exact h1.2.1 x x1 x2 q q1, fun q q1 => by rw [h2.2 q q1]; exact h1.2.2 q q1⟩
theorem FZx.s9 {k z : Nat} {a b : jH} {v : Int} (hz : 421 ≤ z ∧ z ≤ 423) (h1 : FZx k a b) : FZx k a (hs b z k v) := ⟨fun x x1 x2 => by rw [hs_O (by omega)]; exact h1.1 x x1 x2, fun x x1 x2 q q1 => by
    by_cases e : x = z
    · subst e; rw [hs_k q1]; exact h1.2.1 x x1 x2 q q1
    · rw [hs_O e]; exact h1.2.1 x x1 x2 q q1, fun q q1 => by rw [hs_O (by omega)]; exact h1.2.2 q q1⟩
theorem TR.c9 {h h' : jH} {B : Nat → Int} {N f : Nat} (k : TR h B N f) (e1 : h' 388 = h 388) (e2 : h' 393 = h 393) : TR h' B N f := ⟨⟨by rw [e1]; exact k.1.1, fun i hi => by rw [e2]; exact k.1.2.1 i hi, k.1.2.2⟩, by rw [e1]; exact k.2.1, by rw [e1]; exact k.2.2.1, by rw [e1]; exact k.2.2.2.1, by rw [e1]; exact k.2.2.2.2.1, k.2.2.2.2.2⟩
theorem RTx.c9 {h h' : jH} {B : Nat → Int} {N f : Nat} {b : Bool} (k : RTx h B N b f) (e1 : h' 388 = h 388) (e2 : h' 393 = h 393) : RTx h' B N b f := ⟨k.1.c9 e1 e2, by rw [e1]; exact k.2.1, fun q => by rw [e1]; exact k.2.2.1 q, fun q => by rw [e1]; exact k.2.2.2 q⟩
theorem RTx.s9 {h : jH} {B : Nat → Int} {N f : Nat} {b : Bool} {z i : Nat} {v : Int} (k : RTx h B N b f) (hz : z ≠ 388) (hz2 : z ≠ 393) : RTx (hs h z i v) B N b f := k.c9 (hs_O (Ne.symm hz)) (hs_O (Ne.symm hz2))
theorem RTx.N9 {h : jH} {B : Nat → Int} {N f : Nat} {b : Bool} (k : RTx h B N b f) : f ≤ N := k.1.2.2.2.2.2
theorem sT_g {B : Nat → Int} {N f : Nat} (h : (sT B N f).1 = false) : sT0 B N f = (false, nx B N (nx B N (nx B N (nx B N f)))) ∧ nb B N (nx B N f) 1 64 = true ∧ nb B N (nx B N (nx B N (nx B N f))) 0 63 = true := by
  have g0 : (sT0 B N f).1 = false := by
    cases e : (sT0 B N f).1 with
    | false => rfl
    | true =>
      have q := sT_b (B := B) (N := N) (f := f) (g := (sT0 B N f).2) (Prod.ext e rfl)
      rw [q] at h
      exact absurd (show true = false from h) (by decide)
  unfold sT0 at g0
  have a := mvp_g g0
  have b := mvp_g a.1
  have c := mvp_g b.1
  have c2 : nb B N (nx B N f) 1 64 = true := c.2.1
  have c3 := c.2.2
  have b2 := b.2.1
  rw [c3] at b2
  have b3 := b.2.2
  rw [c3] at b3
  have a2 := a.2.1
  rw [b3] at a2
  have a3 := a.2.2
  rw [b3] at a3
  exact ⟨Prod.ext g0 a3, c2, a2⟩
theorem sF_g {B : Nat → Int} {N f w9 : Nat} {lo hi : Int} (h : (sF9 B N f w9 lo hi).1 = false) : nb B N (nx B N f) 1 64 = true ∧ (mvp B N (mvp B N (false, nx B N f) (fun q => nb B N q 1 64)) (fun q => wd B N q w9)).2 = nx B N (nx B N (nx B N f)) ∧ nb B N (nx B N (nx B N (nx B N f))) lo hi = true := by
  unfold sF9 at h
  have a := mvp_g h
  have b := mvp_g a.1
  have c := mvp_g b.1
  have c2 : nb B N (nx B N f) 1 64 = true := c.2.1
  have c3 := c.2.2
  have b3 := b.2.2
  rw [c3] at b3
  have a2 := a.2.1
  rw [b3] at a2
  exact ⟨c2, b3, a2⟩
set_option maxRecDepth 20000 in
set_option maxHeartbeats 1000000 in
theorem r_readTake (l : Launch) (h : jH) (B : Nat → Int) (N f k : Nat) (k24 : k < 24) (rt : RTx h B N false (nx B N f)) : cV l 326 [.ref 388, .int (jI (k : Int))] h (fun h' => RTx h' B N (sT B N f).1 (sT B N f).2 ∧ FZx k h h' ∧ ((sT B N f).1 = false → h' 421 k = nv B N (nx B N f) ∧ h' 422 k = nv B N (nx B N (nx B N (nx B N f))) ∧ h' 423 k = if wd B N (nx B N (nx B N (nx B N (nx B N f)))) 2 = true then nv B N (nx B N (nx B N (nx B N (nx B N (nx B N f))))) else 0)) := by
  refine cV.of rfl rfl ?_
  refine tl_aload_n rfl rfl ?_
  refine tl_getr (c := 12) (k9 := 64) (b := 421) rfl rfl rfl rfl ?_
  refine tl_iload_n rfl rfl ?_
  refine tl_aload_n rfl rfl ?_
  refine tl_lconst (z := 1) rfl rfl ?_
  refine tl_ldc2 (z := 64) rfl (by decide +kernel) ?_
  show jT _ _ 10 _ _ _ _
  refine tl_v2i (c9 := 12) (r_number l h B N false (nx B N f) rt 1 64 (by decide) (by decide) (by decide) (by decide)) rfl rfl rfl rfl rfl (Nat.le_of_ble_eq_true rfl) (fun z1 h1 p1 => ?_)
  obtain ⟨e1, k1, g1⟩ := p1
  subst e1
  change RTx h1 B N (mvp B N (false, nx B N f) (fun q => nb B N q 1 64)).1 (mvp B N (false, nx B N f) (fun q => nb B N q 1 64)).2 at k1
  refine tl_iast (n := 24) rfl rfl rfl (by omega) (by omega) ?_
  rw [Int.toNat_natCast]
  have k1b := RTx.s9 (i := k) (v := wo B N (nx B N f)) k1 (show (421 : Nat) ≠ 388 by decide) (by decide)
  refine tl_aload_n rfl rfl ?_
  refine tl_aload_n rfl rfl ?_
  refine tl_ldc2 (z := 52) rfl (by decide +kernel) ?_
  refine tl_v1i (c9 := 12) (r_isWrd l _ B N (mvp B N (false, nx B N f) (fun q => nb B N q 1 64)).2 k1b.1 1 (by decide) 52 rfl (by decide) (by decide)) rfl rfl rfl rfl rfl (Nat.le_of_ble_eq_true rfl) (fun z2 h2 p2 => ?_)
  obtain ⟨q2, rfl⟩ := p2
  have q2 := q2.symm
  subst q2
  refine tl_v1v (c9 := 12) (r_mustZ l _ B N (mvp B N (false, nx B N f) (fun q => nb B N q 1 64)).1 (mvp B N (false, nx B N f) (fun q => nb B N q 1 64)).2 k1b _ (wd B N (mvp B N (false, nx B N f) (fun q => nb B N q 1 64)).2 1) rfl) rfl rfl rfl rfl rfl (Nat.le_of_ble_eq_true rfl) (fun h3 p3 => ?_)
  obtain ⟨k3, g3⟩ := p3
  change RTx h3 B N (mvp B N (mvp B N (false, nx B N f) (fun q => nb B N q 1 64)) (fun q => wd B N q 1)).1 (mvp B N (mvp B N (false, nx B N f) (fun q => nb B N q 1 64)) (fun q => wd B N q 1)).2 at k3
  show jT _ _ 25 _ _ _ _
  refine tl_aload_n rfl rfl ?_
  refine tl_getr (c := 12) (k9 := 65) (b := 422) rfl rfl rfl rfl ?_
  refine tl_iload_n rfl rfl ?_
  refine tl_aload_n rfl rfl ?_
  refine tl_lconst (z := 0) rfl rfl ?_
  refine tl_ldc2 (z := 63) rfl (by decide +kernel) ?_
  refine tl_v2i (c9 := 12) (r_number l h3 B N (mvp B N (mvp B N (false, nx B N f) (fun q => nb B N q 1 64)) (fun q => wd B N q 1)).1 (mvp B N (mvp B N (false, nx B N f) (fun q => nb B N q 1 64)) (fun q => wd B N q 1)).2 k3 0 63 (by decide) (by decide) (by decide) (by decide)) rfl rfl rfl rfl rfl (Nat.le_of_ble_eq_true rfl) (fun z4 h4 p4 => ?_)
  obtain ⟨e4, k4, g4⟩ := p4
  subst e4
  change RTx h4 B N (sT0 B N f).1 (sT0 B N f).2 at k4
  have b9 := zb_b (sT0 B N f).1
  have k5 : RTx (hs (hs h4 422 k (wo B N (mvp B N (mvp B N (false, nx B N f) (fun q => nb B N q 1 64)) (fun q => wd B N q 1)).2)) 423 k 0) B N (sT0 B N f).1 (sT0 B N f).2 := (k4.s9 (by decide) (by decide)).s9 (by decide) (by decide)
  have q5 : FZx k h (hs (hs h4 422 k (wo B N (mvp B N (mvp B N (false, nx B N f) (fun q => nb B N q 1 64)) (fun q => wd B N q 1)).2)) 423 k 0) := (((((FZx.rfl9.fb g1).s9 (by decide)).fb g3).fb g4).s9 (by decide)).s9 (by decide)
  have c421 : h4 421 k = wo B N (nx B N f) := by rw [g4.1 421 (by decide), g3.1 421 (by decide), hs_s]
  show jT _ _ 38 _ _ _ _
  refine tl_iast (n := 24) rfl rfl rfl (by omega) (by omega) ?_
  rw [Int.toNat_natCast]
  refine tl_aload_n rfl rfl ?_
  refine tl_getr (c := 12) (k9 := 66) (b := 423) rfl rfl rfl rfl ?_
  refine tl_iload_n rfl rfl ?_
  refine tl_iconst rfl ?_
  refine tl_iast (n := 24) rfl rfl rfl (by omega) (by omega) ?_
  rw [Int.toNat_natCast]
  refine tl_aload_n rfl rfl ?_
  show jT _ _ 47 _ _ _ _
  refine tl_geti (c := 12) (k9 := 60) rfl rfl rfl ?_
  rw [hs_o (by decide), hs_o (by decide), k4.2.1]
  refine tl_if_ne (tgt := 81) rfl rfl ⟨by omega, by omega⟩ (fun c1 => ?_) (fun c1 => ?_)
  · skip
    have eb := zb1 c1
    refine tl_ret rfl ?_
    -- leaf 0 at 81
    first
      | (exfalso; omega)
      | (have e : sT B N f = mvp B N (false, nx B N (sT0 B N f).2) (fun q => nb B N q 0 255) := by rw [sT, if_pos ⟨eb, ew⟩]
         refine ⟨rfl, by rw [e]; exact k8.s9 (by decide) (by decide), ((q5.fb g7.fb).fb g8).s9 (by decide), fun q => ?_⟩
         have sg9 := sT_g q
         rw [e] at q
         have q2 := mvp_g q
         have n8 := nb_v (lo := 0) (hi := 255) t7.2.2.2.2.2 (by decide) q2.2.1
         have n1 := nb_v (lo := 1) (hi := 64) rt.N9 (by decide) sg9.2.1
         have es2 : (mvp B N (mvp B N (false, nx B N f) (fun q => nb B N q 1 64)) (fun q => wd B N q 1)).2 = nx B N (nx B N (nx B N f)) := by have z := mvp_g (show (sT0 B N f).1 = false from eb); have z1 := mvp_g z.1; rw [z1.2.2]; have z2 := mvp_g z1.1; rw [z2.2.2]
         have n4 := nb_v (lo := 0) (hi := 63) (k3.N9) (by decide) (by rw [es2]; exact sg9.2.2)
         rw [es2] at n4
         have e3 : (sT0 B N f).2 = nx B N (nx B N (nx B N (nx B N f))) := by rw [sg9.1]
         refine ⟨?_, ?_, ?_⟩
         · rw [hs_o (by decide), g8.1 421 (by decide), g7.1 421 (by decide), hs_o (by decide), hs_o (by decide), c421, n1.1]
         · rw [hs_o (by decide), g8.1 422 (by decide), g7.1 422 (by decide), hs_o (by decide), hs_s, es2, n4.1]
         · rw [hs_s, ← e3, if_pos ew]; exact n8.1)
      | (have e : sT B N f = (sT0 B N f) := by rw [sT, if_neg (fun q => by first | (rw [eb] at q; exact absurd q.1 (by decide)) | (rw [ew] at q; exact absurd q.2 (by decide)))]
         refine ⟨rfl, by rw [e]; exact k5, q5, fun q => ?_⟩
         have sg9 := sT_g q
         rw [e] at q
         have n1 := nb_v (lo := 1) (hi := 64) rt.N9 (by decide) sg9.2.1
         have es2 : (mvp B N (mvp B N (false, nx B N f) (fun q => nb B N q 1 64)) (fun q => wd B N q 1)).2 = nx B N (nx B N (nx B N f)) := by have z := mvp_g (show (sT0 B N f).1 = false from q); have z1 := mvp_g z.1; rw [z1.2.2]; have z2 := mvp_g z1.1; rw [z2.2.2]
         have n4 := nb_v (lo := 0) (hi := 63) (k3.N9) (by decide) (by rw [es2]; exact sg9.2.2)
         rw [es2] at n4
         have e3 : (sT0 B N f).2 = nx B N (nx B N (nx B N (nx B N f))) := by rw [sg9.1]
         refine ⟨?_, ?_, ?_⟩
         · rw [hs_o (by decide), hs_o (by decide), c421, n1.1]
         · rw [hs_o (by decide), hs_s, es2, n4.1]
         · rw [hs_s, ← e3, if_neg (fun z => by first | (rw [q] at eb; exact absurd eb (by decide)) | (rw [ew] at z; exact absurd z (by decide)))])
  · show jT _ _ 53 _ _ _ _
    have eb := zb0' c1
    refine tl_aload_n rfl rfl ?_
    refine tl_ldc2 (z := 89) rfl (by decide +kernel) ?_
    refine tl_v1i (c9 := 12) (r_isWrd l _ B N (sT0 B N f).2 k5.1 2 (by decide) 89 rfl (by decide) (by decide)) rfl rfl rfl rfl rfl (Nat.le_of_ble_eq_true rfl) (fun z6 h6 p6 => ?_)
    obtain ⟨q6, rfl⟩ := p6
    have q6 := q6.symm
    subst q6
    have b6 := zb_b (wd B N (sT0 B N f).2 2)
    refine tl_if_eq (tgt := 81) rfl rfl ⟨by omega, by omega⟩ (fun c2 => ?_) (fun c2 => ?_)
    · skip
      have ew := zb0 c2
      show jT _ _ 81 _ _ _ _
      refine tl_ret rfl ?_
      -- leaf 1 at 81
      first
        | (exfalso; omega)
        | (have e : sT B N f = mvp B N (false, nx B N (sT0 B N f).2) (fun q => nb B N q 0 255) := by rw [sT, if_pos ⟨eb, ew⟩]
           refine ⟨rfl, by rw [e]; exact k8.s9 (by decide) (by decide), ((q5.fb g7.fb).fb g8).s9 (by decide), fun q => ?_⟩
           have sg9 := sT_g q
           rw [e] at q
           have q2 := mvp_g q
           have n8 := nb_v (lo := 0) (hi := 255) t7.2.2.2.2.2 (by decide) q2.2.1
           have n1 := nb_v (lo := 1) (hi := 64) rt.N9 (by decide) sg9.2.1
           have es2 : (mvp B N (mvp B N (false, nx B N f) (fun q => nb B N q 1 64)) (fun q => wd B N q 1)).2 = nx B N (nx B N (nx B N f)) := by have z := mvp_g (show (sT0 B N f).1 = false from eb); have z1 := mvp_g z.1; rw [z1.2.2]; have z2 := mvp_g z1.1; rw [z2.2.2]
           have n4 := nb_v (lo := 0) (hi := 63) (k3.N9) (by decide) (by rw [es2]; exact sg9.2.2)
           rw [es2] at n4
           have e3 : (sT0 B N f).2 = nx B N (nx B N (nx B N (nx B N f))) := by rw [sg9.1]
           refine ⟨?_, ?_, ?_⟩
           · rw [hs_o (by decide), g8.1 421 (by decide), g7.1 421 (by decide), hs_o (by decide), hs_o (by decide), c421, n1.1]
           · rw [hs_o (by decide), g8.1 422 (by decide), g7.1 422 (by decide), hs_o (by decide), hs_s, es2, n4.1]
           · rw [hs_s, ← e3, if_pos ew]; exact n8.1)
        | (have e : sT B N f = (sT0 B N f) := by rw [sT, if_neg (fun q => by first | (rw [eb] at q; exact absurd q.1 (by decide)) | (rw [ew] at q; exact absurd q.2 (by decide)))]
           refine ⟨rfl, by rw [e]; exact k5, q5, fun q => ?_⟩
           have sg9 := sT_g q
           rw [e] at q
           have n1 := nb_v (lo := 1) (hi := 64) rt.N9 (by decide) sg9.2.1
           have es2 : (mvp B N (mvp B N (false, nx B N f) (fun q => nb B N q 1 64)) (fun q => wd B N q 1)).2 = nx B N (nx B N (nx B N f)) := by have z := mvp_g (show (sT0 B N f).1 = false from q); have z1 := mvp_g z.1; rw [z1.2.2]; have z2 := mvp_g z1.1; rw [z2.2.2]
           have n4 := nb_v (lo := 0) (hi := 63) (k3.N9) (by decide) (by rw [es2]; exact sg9.2.2)
           rw [es2] at n4
           have e3 : (sT0 B N f).2 = nx B N (nx B N (nx B N (nx B N f))) := by rw [sg9.1]
           refine ⟨?_, ?_, ?_⟩
           · rw [hs_o (by decide), hs_o (by decide), c421, n1.1]
           · rw [hs_o (by decide), hs_s, es2, n4.1]
           · rw [hs_s, ← e3, if_neg (fun z => by first | (rw [q] at eb; exact absurd eb (by decide)) | (rw [ew] at z; exact absurd z (by decide)))])
    · show jT _ _ 63 _ _ _ _
      have ew := zb1' c2
      refine tl_aload_n rfl rfl ?_
      refine tl_v0v (c9 := 12) (r_next l _ B N k5.1.1 (te B N (sT0 B N f).2) (te_b k5.N9).2.1 k5.1.2.2.1) rfl rfl rfl rfl rfl (Nat.le_of_ble_eq_true rfl) (fun h7 p7 => ?_)
      obtain ⟨t7, g7⟩ := p7
      change TR h7 B N (nx B N (sT0 B N f).2) at t7
      have k7 : RTx h7 B N false (nx B N (sT0 B N f).2) := ⟨t7, by rw [g7.2 60 (by omega), k5.2.1, eb], fun q => absurd q (by decide), fun _ => by rw [g7.2 59 (by omega)]; exact k5.2.2.2 eb⟩
      refine tl_aload_n rfl rfl ?_
      refine tl_getr (c := 12) (k9 := 66) (b := 423) rfl rfl rfl rfl ?_
      refine tl_iload_n rfl rfl ?_
      refine tl_aload_n rfl rfl ?_
      show jT _ _ 73 _ _ _ _
      refine tl_lconst (z := 0) rfl rfl ?_
      refine tl_ldc2 (z := 255) rfl (by decide +kernel) ?_
      refine tl_v2i (c9 := 12) (r_number l h7 B N false (nx B N (sT0 B N f).2) k7 0 255 (by decide) (by decide) (by decide) (by decide)) rfl rfl rfl rfl rfl (Nat.le_of_ble_eq_true rfl) (fun z8 h8 p8 => ?_)
      obtain ⟨e8, k8, g8⟩ := p8
      subst e8
      refine tl_iast (n := 24) rfl rfl rfl (by omega) (by omega) ?_
      rw [Int.toNat_natCast]
      refine tl_ret rfl ?_
      -- leaf 2 at 81
      first
        | (exfalso; omega)
        | (have e : sT B N f = mvp B N (false, nx B N (sT0 B N f).2) (fun q => nb B N q 0 255) := by rw [sT, if_pos ⟨eb, ew⟩]
           refine ⟨rfl, by rw [e]; exact k8.s9 (by decide) (by decide), ((q5.fb g7.fb).fb g8).s9 (by decide), fun q => ?_⟩
           have sg9 := sT_g q
           rw [e] at q
           have q2 := mvp_g q
           have n8 := nb_v (lo := 0) (hi := 255) t7.2.2.2.2.2 (by decide) q2.2.1
           have n1 := nb_v (lo := 1) (hi := 64) rt.N9 (by decide) sg9.2.1
           have es2 : (mvp B N (mvp B N (false, nx B N f) (fun q => nb B N q 1 64)) (fun q => wd B N q 1)).2 = nx B N (nx B N (nx B N f)) := by have z := mvp_g (show (sT0 B N f).1 = false from eb); have z1 := mvp_g z.1; rw [z1.2.2]; have z2 := mvp_g z1.1; rw [z2.2.2]
           have n4 := nb_v (lo := 0) (hi := 63) (k3.N9) (by decide) (by rw [es2]; exact sg9.2.2)
           rw [es2] at n4
           have e3 : (sT0 B N f).2 = nx B N (nx B N (nx B N (nx B N f))) := by rw [sg9.1]
           refine ⟨?_, ?_, ?_⟩
           · rw [hs_o (by decide), g8.1 421 (by decide), g7.1 421 (by decide), hs_o (by decide), hs_o (by decide), c421, n1.1]
           · rw [hs_o (by decide), g8.1 422 (by decide), g7.1 422 (by decide), hs_o (by decide), hs_s, es2, n4.1]
           · rw [hs_s, ← e3, if_pos ew]; exact n8.1)
        | (have e : sT B N f = (sT0 B N f) := by rw [sT, if_neg (fun q => by first | (rw [eb] at q; exact absurd q.1 (by decide)) | (rw [ew] at q; exact absurd q.2 (by decide)))]
           refine ⟨rfl, by rw [e]; exact k5, q5, fun q => ?_⟩
           have sg9 := sT_g q
           rw [e] at q
           have n1 := nb_v (lo := 1) (hi := 64) rt.N9 (by decide) sg9.2.1
           have es2 : (mvp B N (mvp B N (false, nx B N f) (fun q => nb B N q 1 64)) (fun q => wd B N q 1)).2 = nx B N (nx B N (nx B N f)) := by have z := mvp_g (show (sT0 B N f).1 = false from q); have z1 := mvp_g z.1; rw [z1.2.2]; have z2 := mvp_g z1.1; rw [z2.2.2]
           have n4 := nb_v (lo := 0) (hi := 63) (k3.N9) (by decide) (by rw [es2]; exact sg9.2.2)
           rw [es2] at n4
           have e3 : (sT0 B N f).2 = nx B N (nx B N (nx B N (nx B N f))) := by rw [sg9.1]
           refine ⟨?_, ?_, ?_⟩
           · rw [hs_o (by decide), hs_o (by decide), c421, n1.1]
           · rw [hs_o (by decide), hs_s, es2, n4.1]
           · rw [hs_s, ← e3, if_neg (fun z => by first | (rw [q] at eb; exact absurd eb (by decide)) | (rw [ew] at z; exact absurd z (by decide)))])
set_option maxRecDepth 20000 in
set_option maxHeartbeats 1000000 in
theorem r_readTimes (l : Launch) (h : jH) (B : Nat → Int) (N f d k : Nat) (k24 : k < 24) (d4 : d ≤ 4) (ed : h 388 72 = (d : Int)) (rt : RTx h B N false (nx B N f)) : cV l 325 [.ref 388, .int (jI (k : Int))] h (fun h' => RTx h' B N (sM9 B N f d).1 (sM9 B N f d).2 ∧ ((∀ x, x ≠ 388 → x ≠ 421 → x ≠ 426 → h' x = h x) ∧ (∀ q, q ≠ k → h' 421 q = h 421 q) ∧ (∀ q, q ≠ d → h' 426 q = h 426 q) ∧ ∀ q, (q < 55 ∨ 60 < q) → q ≠ 72 → h' 388 q = h 388 q) ∧ ((sM9 B N f d).1 = false → h' 421 k = nv B N (nx B N f) ∧ h' 426 d = (k : Int) ∧ h' 388 72 = ((d + 1 : Nat) : Int))) := by
  refine cV.of rfl rfl ?_
  refine tl_aload_n rfl rfl ?_
  refine tl_getr (c := 12) (k9 := 64) (b := 421) rfl rfl rfl rfl ?_
  refine tl_iload_n rfl rfl ?_
  refine tl_aload_n rfl rfl ?_
  refine tl_lconst (z := 1) rfl rfl ?_
  refine tl_ldc2 (z := 9) rfl (by decide +kernel) ?_
  show jT _ _ 10 _ _ _ _
  refine tl_v2i (c9 := 12) (r_number l h B N false (nx B N f) rt 1 9 (by decide) (by decide) (by decide) (by decide)) rfl rfl rfl rfl rfl (Nat.le_of_ble_eq_true rfl) (fun z1 h1 p1 => ?_)
  obtain ⟨e1, k1, g1⟩ := p1
  subst e1
  change RTx h1 B N (mvp B N (false, nx B N f) (fun q => nb B N q 1 9)).1 (mvp B N (false, nx B N f) (fun q => nb B N q 1 9)).2 at k1
  refine tl_iast (n := 24) rfl rfl rfl (by omega) (by omega) ?_
  rw [Int.toNat_natCast]
  have k1b := RTx.s9 (i := k) (v := wo B N (nx B N f)) k1 (show (421 : Nat) ≠ 388 by decide) (by decide)
  refine tl_aload_n rfl rfl ?_
  refine tl_aload_n rfl rfl ?_
  refine tl_bipush rfl rfl ?_
  refine tl_v1i (c9 := 12) (r_isSgn l _ B N (mvp B N (false, nx B N f) (fun q => nb B N q 1 9)).2 k1b.1 40 (by decide) (by decide) rfl rfl) rfl rfl rfl rfl rfl (Nat.le_of_ble_eq_true rfl) (fun z2 h2 p2 => ?_)
  obtain ⟨q2, rfl⟩ := p2
  have q2 := q2.symm
  subst q2
  have b2 := zb_b (sg B N (mvp B N (false, nx B N f) (fun q => nb B N q 1 9)).2 40)
  refine tl_if_eq (tgt := 36) rfl rfl ⟨by omega, by omega⟩ (fun c1 => ?_) (fun c1 => ?_)
  · skip
    have es := zb0 c1
    show jT _ _ 36 _ _ _ _
    refine tl_iconst rfl ?_
    refine tl_v1v (c9 := 12) (r_mustZ l _ B N (mvp B N (false, nx B N f) (fun q => nb B N q 1 9)).1 (mvp B N (false, nx B N f) (fun q => nb B N q 1 9)).2 k1b _ (sg B N (mvp B N (false, nx B N f) (fun q => nb B N q 1 9)).2 40 && decide (d < 4)) (by first | (rw [es, decide_eq_true (show d < 4 by omega)]; rfl) | (rw [es]; rfl) | (rw [decide_eq_false (show ¬ d < 4 by omega), Bool.and_false]; rfl))) rfl rfl rfl rfl rfl (Nat.le_of_ble_eq_true rfl) (fun h3 p3 => ?_)
    obtain ⟨k3, g3⟩ := p3
    change RTx h3 B N (sM9 B N f d).1 (sM9 B N f d).2 at k3
    have b9 := zb_b (sM9 B N f d).1
    have e72 : h3 388 72 = (d : Int) := by rw [g3.2 72 (by omega), hs_o (by decide), g1.2 72 (by omega), ed]
    have dd : (sM9 B N f d).1 = false → d < 4 := fun q => by have z := (mvp_g (show (mvp B N (mvp B N (false, nx B N f) (fun q => nb B N q 1 9)) (fun q => sg B N q 40 && decide (d < 4))).1 = false from q)).2.1; by_cases c : d < 4; exact c; (exfalso; change (sg B N (mvp B N (false, nx B N f) (fun q => nb B N q 1 9)).2 40 && decide (d < 4)) = true at z; rw [decide_eq_false c, Bool.and_false] at z; exact absurd z (by decide))
    have dq : (sM9 B N f d).1 = true ∨ d < 4 := by cases e9 : (sM9 B N f d).1 with | true => exact Or.inl rfl | false => exact Or.inr (dd e9)
    refine tl_aload_n rfl rfl ?_
    refine tl_geti (c := 12) (k9 := 60) rfl rfl rfl ?_
    rw [k3.2.1]
    refine tl_if_ne (tgt := 67) rfl rfl ⟨by omega, by omega⟩ (fun c2 => ?_) (fun c2 => ?_)
    · skip
      have eb := zb1 c2
      refine tl_ret rfl ?_
      -- leaf 0 at 67
      first
        | (exfalso; omega)
        | (refine ⟨rfl, k3, ⟨fun x x1 x2 x3 => by rw [g3.1 x x1, hs_O x2, g1.1 x x1], fun q q1 => by rw [g3.1 421 (by decide), hs_k q1, g1.1 421 (by decide)], fun q q1 => by rw [g3.1 426 (by decide), hs_O (by decide), g1.1 426 (by decide)], fun q q1 _ => by rw [g3.2 q q1, hs_O (by decide), g1.2 q q1]⟩, fun q => by rw [q] at eb; exact absurd eb (by decide)⟩)
        | (refine ⟨rfl, ?_, ⟨fun x x1 x2 x3 => by rw [hs_O x1, hs_O x3, g3.1 x x1, hs_O x2, g1.1 x x1], fun q q1 => by rw [hs_O (by decide), hs_O (by decide), g3.1 421 (by decide), hs_k q1, g1.1 421 (by decide)], fun q q1 => by rw [hs_O (by decide), hs_k q1, g3.1 426 (by decide), hs_O (by decide), g1.1 426 (by decide)], fun q q1 q2 => by rw [hs_k q2, hs_o (by decide), g3.2 q q1, hs_O (by decide), g1.2 q q1]⟩, fun q => ⟨?_, ?_, ?_⟩⟩
           · refine ⟨⟨⟨by rw [hs_k (by decide), hs_o (by decide)]; exact k3.1.1.1, fun i hi => by rw [hs_O (by decide), hs_O (by decide)]; exact k3.1.1.2.1 i hi, k3.1.1.2.2⟩, by rw [hs_k (by decide), hs_o (by decide)]; exact k3.1.2.1, by rw [hs_k (by decide), hs_o (by decide)]; exact k3.1.2.2.1, by rw [hs_k (by decide), hs_o (by decide)]; exact k3.1.2.2.2.1, by rw [hs_k (by decide), hs_o (by decide)]; exact k3.1.2.2.2.2.1, k3.N9⟩, by rw [hs_k (by decide), hs_o (by decide)]; exact k3.2.1, fun z => by rw [hs_k (by decide), hs_o (by decide)]; exact k3.2.2.1 z, fun z => by rw [hs_k (by decide), hs_o (by decide)]; exact k3.2.2.2 z⟩
           · have z := mvp_g (show (mvp B N (mvp B N (false, nx B N f) (fun q => nb B N q 1 9)) (fun q => sg B N q 40 && decide (d < 4))).1 = false from q)
             have z2 := mvp_g z.1
             have n1 := nb_v (lo := 1) (hi := 9) rt.N9 (by decide) z2.2.1
             rw [hs_O (by decide), hs_O (by decide), g3.1 421 (by decide), hs_s, n1.1]
           · rw [hs_O (by decide), hs_s]
           · rw [hs_s]; omega)
    · show jT _ _ 47 _ _ _ _
      have eb := zb0' c2
      refine tl_aload_n rfl rfl ?_
      show jT _ _ 48 _ _ _ _
      refine tl_getr (c := 12) (k9 := 70) (b := 426) rfl rfl rfl rfl ?_
      refine tl_aload_n rfl rfl ?_
      refine tl_geti (c := 12) (k9 := 72) rfl rfl rfl ?_
      rw [e72]
      refine tl_iload_n rfl rfl ?_
      refine tl_iast (n := 5) rfl rfl rfl (by omega) (by omega) ?_
      rw [Int.toNat_natCast]
      refine tl_aload_n rfl rfl ?_
      refine tl_dup rfl rfl ?_
      show jT _ _ 59 _ _ _ _
      refine tl_geti (c := 12) (k9 := 72) rfl rfl rfl ?_
      rw [hs_o (by decide), e72]
      refine tl_iconst rfl ?_
      refine tl_iadd rfl ?_
      refine tl_puti (c := 12) (k9 := 72) rfl rfl rfl rfl ?_
      refine tl_ret rfl ?_
      -- leaf 1 at 67
      first
        | (exfalso; omega)
        | (refine ⟨rfl, k3, ⟨fun x x1 x2 x3 => by rw [g3.1 x x1, hs_O x2, g1.1 x x1], fun q q1 => by rw [g3.1 421 (by decide), hs_k q1, g1.1 421 (by decide)], fun q q1 => by rw [g3.1 426 (by decide), hs_O (by decide), g1.1 426 (by decide)], fun q q1 _ => by rw [g3.2 q q1, hs_O (by decide), g1.2 q q1]⟩, fun q => by rw [q] at eb; exact absurd eb (by decide)⟩)
        | (refine ⟨rfl, ?_, ⟨fun x x1 x2 x3 => by rw [hs_O x1, hs_O x3, g3.1 x x1, hs_O x2, g1.1 x x1], fun q q1 => by rw [hs_O (by decide), hs_O (by decide), g3.1 421 (by decide), hs_k q1, g1.1 421 (by decide)], fun q q1 => by rw [hs_O (by decide), hs_k q1, g3.1 426 (by decide), hs_O (by decide), g1.1 426 (by decide)], fun q q1 q2 => by rw [hs_k q2, hs_o (by decide), g3.2 q q1, hs_O (by decide), g1.2 q q1]⟩, fun q => ⟨?_, ?_, ?_⟩⟩
           · refine ⟨⟨⟨by rw [hs_k (by decide), hs_o (by decide)]; exact k3.1.1.1, fun i hi => by rw [hs_O (by decide), hs_O (by decide)]; exact k3.1.1.2.1 i hi, k3.1.1.2.2⟩, by rw [hs_k (by decide), hs_o (by decide)]; exact k3.1.2.1, by rw [hs_k (by decide), hs_o (by decide)]; exact k3.1.2.2.1, by rw [hs_k (by decide), hs_o (by decide)]; exact k3.1.2.2.2.1, by rw [hs_k (by decide), hs_o (by decide)]; exact k3.1.2.2.2.2.1, k3.N9⟩, by rw [hs_k (by decide), hs_o (by decide)]; exact k3.2.1, fun z => by rw [hs_k (by decide), hs_o (by decide)]; exact k3.2.2.1 z, fun z => by rw [hs_k (by decide), hs_o (by decide)]; exact k3.2.2.2 z⟩
           · have z := mvp_g (show (mvp B N (mvp B N (false, nx B N f) (fun q => nb B N q 1 9)) (fun q => sg B N q 40 && decide (d < 4))).1 = false from q)
             have z2 := mvp_g z.1
             have n1 := nb_v (lo := 1) (hi := 9) rt.N9 (by decide) z2.2.1
             rw [hs_O (by decide), hs_O (by decide), g3.1 421 (by decide), hs_s, n1.1]
           · rw [hs_O (by decide), hs_s]
           · rw [hs_s]; omega)
  · show jT _ _ 24 _ _ _ _
    have es := zb1' c1
    refine tl_aload_n rfl rfl ?_
    refine tl_geti (c := 12) (k9 := 72) rfl rfl rfl ?_
    rw [hs_o (by decide), g1.2 72 (by omega), ed]
    show jT _ _ 28 _ _ _ _
    refine tl_iconst rfl ?_
    refine tl_icmp_ge (tgt := 36) rfl rfl ⟨by omega, by omega⟩ ⟨by omega, by omega⟩ (fun c3 => ?_) (fun c3 => ?_)
    · skip
      refine tl_iconst rfl ?_
      refine tl_v1v (c9 := 12) (r_mustZ l _ B N (mvp B N (false, nx B N f) (fun q => nb B N q 1 9)).1 (mvp B N (false, nx B N f) (fun q => nb B N q 1 9)).2 k1b _ (sg B N (mvp B N (false, nx B N f) (fun q => nb B N q 1 9)).2 40 && decide (d < 4)) (by first | (rw [es, decide_eq_true (show d < 4 by omega)]; rfl) | (rw [es]; rfl) | (rw [decide_eq_false (show ¬ d < 4 by omega), Bool.and_false]; rfl))) rfl rfl rfl rfl rfl (Nat.le_of_ble_eq_true rfl) (fun h3 p3 => ?_)
      obtain ⟨k3, g3⟩ := p3
      change RTx h3 B N (sM9 B N f d).1 (sM9 B N f d).2 at k3
      have b9 := zb_b (sM9 B N f d).1
      have e72 : h3 388 72 = (d : Int) := by rw [g3.2 72 (by omega), hs_o (by decide), g1.2 72 (by omega), ed]
      have dd : (sM9 B N f d).1 = false → d < 4 := fun q => by have z := (mvp_g (show (mvp B N (mvp B N (false, nx B N f) (fun q => nb B N q 1 9)) (fun q => sg B N q 40 && decide (d < 4))).1 = false from q)).2.1; by_cases c : d < 4; exact c; (exfalso; change (sg B N (mvp B N (false, nx B N f) (fun q => nb B N q 1 9)).2 40 && decide (d < 4)) = true at z; rw [decide_eq_false c, Bool.and_false] at z; exact absurd z (by decide))
      have dq : (sM9 B N f d).1 = true ∨ d < 4 := by cases e9 : (sM9 B N f d).1 with | true => exact Or.inl rfl | false => exact Or.inr (dd e9)
      refine tl_aload_n rfl rfl ?_
      refine tl_geti (c := 12) (k9 := 60) rfl rfl rfl ?_
      rw [k3.2.1]
      refine tl_if_ne (tgt := 67) rfl rfl ⟨by omega, by omega⟩ (fun c4 => ?_) (fun c4 => ?_)
      · skip
        have eb := zb1 c4
        show jT _ _ 67 _ _ _ _
        refine tl_ret rfl ?_
        -- leaf 2 at 67
        first
          | (exfalso; omega)
          | (refine ⟨rfl, k3, ⟨fun x x1 x2 x3 => by rw [g3.1 x x1, hs_O x2, g1.1 x x1], fun q q1 => by rw [g3.1 421 (by decide), hs_k q1, g1.1 421 (by decide)], fun q q1 => by rw [g3.1 426 (by decide), hs_O (by decide), g1.1 426 (by decide)], fun q q1 _ => by rw [g3.2 q q1, hs_O (by decide), g1.2 q q1]⟩, fun q => by rw [q] at eb; exact absurd eb (by decide)⟩)
          | (refine ⟨rfl, ?_, ⟨fun x x1 x2 x3 => by rw [hs_O x1, hs_O x3, g3.1 x x1, hs_O x2, g1.1 x x1], fun q q1 => by rw [hs_O (by decide), hs_O (by decide), g3.1 421 (by decide), hs_k q1, g1.1 421 (by decide)], fun q q1 => by rw [hs_O (by decide), hs_k q1, g3.1 426 (by decide), hs_O (by decide), g1.1 426 (by decide)], fun q q1 q2 => by rw [hs_k q2, hs_o (by decide), g3.2 q q1, hs_O (by decide), g1.2 q q1]⟩, fun q => ⟨?_, ?_, ?_⟩⟩
             · refine ⟨⟨⟨by rw [hs_k (by decide), hs_o (by decide)]; exact k3.1.1.1, fun i hi => by rw [hs_O (by decide), hs_O (by decide)]; exact k3.1.1.2.1 i hi, k3.1.1.2.2⟩, by rw [hs_k (by decide), hs_o (by decide)]; exact k3.1.2.1, by rw [hs_k (by decide), hs_o (by decide)]; exact k3.1.2.2.1, by rw [hs_k (by decide), hs_o (by decide)]; exact k3.1.2.2.2.1, by rw [hs_k (by decide), hs_o (by decide)]; exact k3.1.2.2.2.2.1, k3.N9⟩, by rw [hs_k (by decide), hs_o (by decide)]; exact k3.2.1, fun z => by rw [hs_k (by decide), hs_o (by decide)]; exact k3.2.2.1 z, fun z => by rw [hs_k (by decide), hs_o (by decide)]; exact k3.2.2.2 z⟩
             · have z := mvp_g (show (mvp B N (mvp B N (false, nx B N f) (fun q => nb B N q 1 9)) (fun q => sg B N q 40 && decide (d < 4))).1 = false from q)
               have z2 := mvp_g z.1
               have n1 := nb_v (lo := 1) (hi := 9) rt.N9 (by decide) z2.2.1
               rw [hs_O (by decide), hs_O (by decide), g3.1 421 (by decide), hs_s, n1.1]
             · rw [hs_O (by decide), hs_s]
             · rw [hs_s]; omega)
      · show jT _ _ 47 _ _ _ _
        have eb := zb0' c4
        refine tl_aload_n rfl rfl ?_
        refine tl_getr (c := 12) (k9 := 70) (b := 426) rfl rfl rfl rfl ?_
        refine tl_aload_n rfl rfl ?_
        refine tl_geti (c := 12) (k9 := 72) rfl rfl rfl ?_
        rw [e72]
        refine tl_iload_n rfl rfl ?_
        refine tl_iast (n := 5) rfl rfl rfl (by omega) (by omega) ?_
        rw [Int.toNat_natCast]
        show jT _ _ 57 _ _ _ _
        refine tl_aload_n rfl rfl ?_
        refine tl_dup rfl rfl ?_
        refine tl_geti (c := 12) (k9 := 72) rfl rfl rfl ?_
        rw [hs_o (by decide), e72]
        refine tl_iconst rfl ?_
        refine tl_iadd rfl ?_
        refine tl_puti (c := 12) (k9 := 72) rfl rfl rfl rfl ?_
        refine tl_ret rfl ?_
        -- leaf 3 at 67
        first
          | (exfalso; omega)
          | (refine ⟨rfl, k3, ⟨fun x x1 x2 x3 => by rw [g3.1 x x1, hs_O x2, g1.1 x x1], fun q q1 => by rw [g3.1 421 (by decide), hs_k q1, g1.1 421 (by decide)], fun q q1 => by rw [g3.1 426 (by decide), hs_O (by decide), g1.1 426 (by decide)], fun q q1 _ => by rw [g3.2 q q1, hs_O (by decide), g1.2 q q1]⟩, fun q => by rw [q] at eb; exact absurd eb (by decide)⟩)
          | (refine ⟨rfl, ?_, ⟨fun x x1 x2 x3 => by rw [hs_O x1, hs_O x3, g3.1 x x1, hs_O x2, g1.1 x x1], fun q q1 => by rw [hs_O (by decide), hs_O (by decide), g3.1 421 (by decide), hs_k q1, g1.1 421 (by decide)], fun q q1 => by rw [hs_O (by decide), hs_k q1, g3.1 426 (by decide), hs_O (by decide), g1.1 426 (by decide)], fun q q1 q2 => by rw [hs_k q2, hs_o (by decide), g3.2 q q1, hs_O (by decide), g1.2 q q1]⟩, fun q => ⟨?_, ?_, ?_⟩⟩
             · refine ⟨⟨⟨by rw [hs_k (by decide), hs_o (by decide)]; exact k3.1.1.1, fun i hi => by rw [hs_O (by decide), hs_O (by decide)]; exact k3.1.1.2.1 i hi, k3.1.1.2.2⟩, by rw [hs_k (by decide), hs_o (by decide)]; exact k3.1.2.1, by rw [hs_k (by decide), hs_o (by decide)]; exact k3.1.2.2.1, by rw [hs_k (by decide), hs_o (by decide)]; exact k3.1.2.2.2.1, by rw [hs_k (by decide), hs_o (by decide)]; exact k3.1.2.2.2.2.1, k3.N9⟩, by rw [hs_k (by decide), hs_o (by decide)]; exact k3.2.1, fun z => by rw [hs_k (by decide), hs_o (by decide)]; exact k3.2.2.1 z, fun z => by rw [hs_k (by decide), hs_o (by decide)]; exact k3.2.2.2 z⟩
             · have z := mvp_g (show (mvp B N (mvp B N (false, nx B N f) (fun q => nb B N q 1 9)) (fun q => sg B N q 40 && decide (d < 4))).1 = false from q)
               have z2 := mvp_g z.1
               have n1 := nb_v (lo := 1) (hi := 9) rt.N9 (by decide) z2.2.1
               rw [hs_O (by decide), hs_O (by decide), g3.1 421 (by decide), hs_s, n1.1]
             · rw [hs_O (by decide), hs_s]
             · rw [hs_s]; omega)
    · show jT _ _ 32 _ _ _ _
      show jT _ _ 32 _ _ _ _
      refine tl_iconst rfl ?_
      refine tl_goto (tgt := 37) rfl rfl ?_
      refine tl_v1v (c9 := 12) (r_mustZ l _ B N (mvp B N (false, nx B N f) (fun q => nb B N q 1 9)).1 (mvp B N (false, nx B N f) (fun q => nb B N q 1 9)).2 k1b _ (sg B N (mvp B N (false, nx B N f) (fun q => nb B N q 1 9)).2 40 && decide (d < 4)) (by first | (rw [es, decide_eq_true (show d < 4 by omega)]; rfl) | (rw [es]; rfl) | (rw [decide_eq_false (show ¬ d < 4 by omega), Bool.and_false]; rfl))) rfl rfl rfl rfl rfl (Nat.le_of_ble_eq_true rfl) (fun h3 p3 => ?_)
      obtain ⟨k3, g3⟩ := p3
      change RTx h3 B N (sM9 B N f d).1 (sM9 B N f d).2 at k3
      have b9 := zb_b (sM9 B N f d).1
      have e72 : h3 388 72 = (d : Int) := by rw [g3.2 72 (by omega), hs_o (by decide), g1.2 72 (by omega), ed]
      have dd : (sM9 B N f d).1 = false → d < 4 := fun q => by have z := (mvp_g (show (mvp B N (mvp B N (false, nx B N f) (fun q => nb B N q 1 9)) (fun q => sg B N q 40 && decide (d < 4))).1 = false from q)).2.1; by_cases c : d < 4; exact c; (exfalso; change (sg B N (mvp B N (false, nx B N f) (fun q => nb B N q 1 9)).2 40 && decide (d < 4)) = true at z; rw [decide_eq_false c, Bool.and_false] at z; exact absurd z (by decide))
      have dq : (sM9 B N f d).1 = true ∨ d < 4 := by cases e9 : (sM9 B N f d).1 with | true => exact Or.inl rfl | false => exact Or.inr (dd e9)
      refine tl_aload_n rfl rfl ?_
      refine tl_geti (c := 12) (k9 := 60) rfl rfl rfl ?_
      rw [k3.2.1]
      refine tl_if_ne (tgt := 67) rfl rfl ⟨by omega, by omega⟩ (fun c5 => ?_) (fun c5 => ?_)
      · skip
        have eb := zb1 c5
        refine tl_ret rfl ?_
        -- leaf 4 at 67
        first
          | (exfalso; omega)
          | (refine ⟨rfl, k3, ⟨fun x x1 x2 x3 => by rw [g3.1 x x1, hs_O x2, g1.1 x x1], fun q q1 => by rw [g3.1 421 (by decide), hs_k q1, g1.1 421 (by decide)], fun q q1 => by rw [g3.1 426 (by decide), hs_O (by decide), g1.1 426 (by decide)], fun q q1 _ => by rw [g3.2 q q1, hs_O (by decide), g1.2 q q1]⟩, fun q => by rw [q] at eb; exact absurd eb (by decide)⟩)
          | (refine ⟨rfl, ?_, ⟨fun x x1 x2 x3 => by rw [hs_O x1, hs_O x3, g3.1 x x1, hs_O x2, g1.1 x x1], fun q q1 => by rw [hs_O (by decide), hs_O (by decide), g3.1 421 (by decide), hs_k q1, g1.1 421 (by decide)], fun q q1 => by rw [hs_O (by decide), hs_k q1, g3.1 426 (by decide), hs_O (by decide), g1.1 426 (by decide)], fun q q1 q2 => by rw [hs_k q2, hs_o (by decide), g3.2 q q1, hs_O (by decide), g1.2 q q1]⟩, fun q => ⟨?_, ?_, ?_⟩⟩
             · refine ⟨⟨⟨by rw [hs_k (by decide), hs_o (by decide)]; exact k3.1.1.1, fun i hi => by rw [hs_O (by decide), hs_O (by decide)]; exact k3.1.1.2.1 i hi, k3.1.1.2.2⟩, by rw [hs_k (by decide), hs_o (by decide)]; exact k3.1.2.1, by rw [hs_k (by decide), hs_o (by decide)]; exact k3.1.2.2.1, by rw [hs_k (by decide), hs_o (by decide)]; exact k3.1.2.2.2.1, by rw [hs_k (by decide), hs_o (by decide)]; exact k3.1.2.2.2.2.1, k3.N9⟩, by rw [hs_k (by decide), hs_o (by decide)]; exact k3.2.1, fun z => by rw [hs_k (by decide), hs_o (by decide)]; exact k3.2.2.1 z, fun z => by rw [hs_k (by decide), hs_o (by decide)]; exact k3.2.2.2 z⟩
             · have z := mvp_g (show (mvp B N (mvp B N (false, nx B N f) (fun q => nb B N q 1 9)) (fun q => sg B N q 40 && decide (d < 4))).1 = false from q)
               have z2 := mvp_g z.1
               have n1 := nb_v (lo := 1) (hi := 9) rt.N9 (by decide) z2.2.1
               rw [hs_O (by decide), hs_O (by decide), g3.1 421 (by decide), hs_s, n1.1]
             · rw [hs_O (by decide), hs_s]
             · rw [hs_s]; omega)
      · show jT _ _ 47 _ _ _ _
        have eb := zb0' c5
        show jT _ _ 47 _ _ _ _
        refine tl_aload_n rfl rfl ?_
        refine tl_getr (c := 12) (k9 := 70) (b := 426) rfl rfl rfl rfl ?_
        refine tl_aload_n rfl rfl ?_
        refine tl_geti (c := 12) (k9 := 72) rfl rfl rfl ?_
        rw [e72]
        refine tl_iload_n rfl rfl ?_
        refine tl_iast (n := 5) rfl rfl rfl (by omega) (by omega) ?_
        rw [Int.toNat_natCast]
        refine tl_aload_n rfl rfl ?_
        show jT _ _ 58 _ _ _ _
        refine tl_dup rfl rfl ?_
        refine tl_geti (c := 12) (k9 := 72) rfl rfl rfl ?_
        rw [hs_o (by decide), e72]
        refine tl_iconst rfl ?_
        refine tl_iadd rfl ?_
        refine tl_puti (c := 12) (k9 := 72) rfl rfl rfl rfl ?_
        refine tl_ret rfl ?_
        -- leaf 5 at 67
        first
          | (exfalso; omega)
          | (refine ⟨rfl, k3, ⟨fun x x1 x2 x3 => by rw [g3.1 x x1, hs_O x2, g1.1 x x1], fun q q1 => by rw [g3.1 421 (by decide), hs_k q1, g1.1 421 (by decide)], fun q q1 => by rw [g3.1 426 (by decide), hs_O (by decide), g1.1 426 (by decide)], fun q q1 _ => by rw [g3.2 q q1, hs_O (by decide), g1.2 q q1]⟩, fun q => by rw [q] at eb; exact absurd eb (by decide)⟩)
          | (refine ⟨rfl, ?_, ⟨fun x x1 x2 x3 => by rw [hs_O x1, hs_O x3, g3.1 x x1, hs_O x2, g1.1 x x1], fun q q1 => by rw [hs_O (by decide), hs_O (by decide), g3.1 421 (by decide), hs_k q1, g1.1 421 (by decide)], fun q q1 => by rw [hs_O (by decide), hs_k q1, g3.1 426 (by decide), hs_O (by decide), g1.1 426 (by decide)], fun q q1 q2 => by rw [hs_k q2, hs_o (by decide), g3.2 q q1, hs_O (by decide), g1.2 q q1]⟩, fun q => ⟨?_, ?_, ?_⟩⟩
             · refine ⟨⟨⟨by rw [hs_k (by decide), hs_o (by decide)]; exact k3.1.1.1, fun i hi => by rw [hs_O (by decide), hs_O (by decide)]; exact k3.1.1.2.1 i hi, k3.1.1.2.2⟩, by rw [hs_k (by decide), hs_o (by decide)]; exact k3.1.2.1, by rw [hs_k (by decide), hs_o (by decide)]; exact k3.1.2.2.1, by rw [hs_k (by decide), hs_o (by decide)]; exact k3.1.2.2.2.1, by rw [hs_k (by decide), hs_o (by decide)]; exact k3.1.2.2.2.2.1, k3.N9⟩, by rw [hs_k (by decide), hs_o (by decide)]; exact k3.2.1, fun z => by rw [hs_k (by decide), hs_o (by decide)]; exact k3.2.2.1 z, fun z => by rw [hs_k (by decide), hs_o (by decide)]; exact k3.2.2.2 z⟩
             · have z := mvp_g (show (mvp B N (mvp B N (false, nx B N f) (fun q => nb B N q 1 9)) (fun q => sg B N q 40 && decide (d < 4))).1 = false from q)
               have z2 := mvp_g z.1
               have n1 := nb_v (lo := 1) (hi := 9) rt.N9 (by decide) z2.2.1
               rw [hs_O (by decide), hs_O (by decide), g3.1 421 (by decide), hs_s, n1.1]
             · rw [hs_O (by decide), hs_s]
             · rw [hs_s]; omega)
