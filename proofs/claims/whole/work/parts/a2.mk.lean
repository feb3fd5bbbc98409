/-! constructors: memory while it is made -/
def mkG (F : Nat → va_E) (a : Nat) (o : va_E) (n : Nat) (ds : List va_E) (S : Nat) : jG := (fun i => if i = a then o else if n ≤ i then (ds[i - n]?).getD (F i) else F i, n + ds.length, S)
/-- references that were stored one by one -/
def rfN (g : Nat → Nat) : Nat → Nat → Option Nat
  | 0 => fun _ => none
  | k + 1 => va_up (rfN g k) k (some (g k))
section MG
variable {F : Nat → va_E} {a n S S' : Nat} {o o' c : va_E} {ds : List va_E}
theorem mkG_o : (mkG F a o n ds S).1 a = o := if_pos rfl
theorem mkG_d (ha : a < n) {j : Nat} (h : ds[j]? = some c) : (mkG F a o n ds S).1 (n + j) = c := by
  show (if n + j = a then o else if n ≤ n + j then (ds[n + j - n]?).getD (F (n + j)) else F (n + j)) = c
  rw [if_neg (by omega), if_pos (by omega), Nat.add_sub_cancel_left, h]
  rfl
theorem mkG_new (ha : a < n) : ((va_up (mkG F a o n ds S).1 (n + ds.length) c, n + ds.length + 1, S') : jG) = mkG F a o n (ds ++ [c]) S' := by
  refine Prod.ext (funext fun i => ?_) (Prod.ext ?_ rfl)
  · show (if i = n + ds.length then c else if i = a then o else if n ≤ i then (ds[i - n]?).getD (F i) else F i) = (if i = a then o else if n ≤ i then ((ds ++ [c])[i - n]?).getD (F i) else F i)
    by_cases e : i = n + ds.length
    · subst e
      rw [if_pos rfl, if_neg (by omega), if_pos (by omega), Nat.add_sub_cancel_left, List.getElem?_append_right (Nat.le_refl _), Nat.sub_self]
      rfl
    · rw [if_neg e]
      by_cases e1 : i = a
      · rw [if_pos e1, if_pos e1]
      · rw [if_neg e1, if_neg e1]
        by_cases e2 : n ≤ i
        · rw [if_pos e2, if_pos e2]
          by_cases e3 : i - n < ds.length
          · rw [List.getElem?_append_left e3]
          · rw [List.getElem?_eq_none (by omega), List.getElem?_eq_none (by simp; omega)]
        · rw [if_neg e2, if_neg e2]
  · show n + ds.length + 1 = n + (ds ++ [c]).length
    rw [List.length_append]
    rfl
theorem mkG_up : jup (mkG F a o n ds S) a o' = mkG F a o' n ds S := by
  refine Prod.ext (funext fun i => ?_) rfl
  show (if i = a then o' else if i = a then o else if n ≤ i then (ds[i - n]?).getD (F i) else F i) = (if i = a then o' else if n ≤ i then (ds[i - n]?).getD (F i) else F i)
  by_cases e : i = a
  · rw [if_pos e, if_pos e]
  · rw [if_neg e, if_neg e, if_neg e]
theorem mkG_ud (ha : a < n) {j : Nat} (hj : j < ds.length) : jup (mkG F a o n ds S) (n + j) c = mkG F a o n (ds.set j c) S := by
  refine Prod.ext (funext fun i => ?_) (Prod.ext ?_ rfl)
  · show (if i = n + j then c else if i = a then o else if n ≤ i then (ds[i - n]?).getD (F i) else F i) = (if i = a then o else if n ≤ i then ((ds.set j c)[i - n]?).getD (F i) else F i)
    by_cases e : i = n + j
    · subst e
      rw [if_pos rfl, if_neg (by omega), if_pos (by omega), Nat.add_sub_cancel_left, List.getElem?_set_self hj]
      rfl
    · rw [if_neg e]
      by_cases e1 : i = a
      · rw [if_pos e1, if_pos e1]
      · rw [if_neg e1, if_neg e1]
        by_cases e2 : n ≤ i
        · rw [if_pos e2, if_pos e2, List.getElem?_set_ne (by omega)]
        · rw [if_neg e2, if_neg e2]
  · show n + ds.length = n + (ds.set j c).length
    rw [List.length_set]
theorem mkG_self {G : jG} (h : G.1 a = o) : mkG G.1 a o G.2.1 [] G.2.2 = G := by
  refine Prod.ext (funext fun i => ?_) rfl
  show (if i = a then o else if G.2.1 ≤ i then (([] : List va_E)[i - G.2.1]?).getD (G.1 i) else G.1 i) = G.1 i
  by_cases e : i = a
  · subst e; rw [if_pos rfl, h]
  · rw [if_neg e]
    by_cases e2 : G.2.1 ≤ i
    · rw [if_pos e2, List.getElem?_nil]; rfl
    · rw [if_neg e2]
theorem mkG_ret (ha : a < n) {q S2 : Nat} {o2 : va_E} {ds2 : List va_E} (hq : n + ds.length = q) : mkG (mkG F a o n (ds ++ [c]) S).1 q o2 (q + 1) ds2 S2 = mkG F a o n (ds ++ (o2 :: ds2)) S2 := by
  subst hq
  refine Prod.ext (funext fun i => ?_) (Prod.ext ?_ rfl)
  · show (if i = n + ds.length then o2 else if n + ds.length + 1 ≤ i then (ds2[i - (n + ds.length + 1)]?).getD (if i = a then o else if n ≤ i then ((ds ++ [c])[i - n]?).getD (F i) else F i) else (if i = a then o else if n ≤ i then ((ds ++ [c])[i - n]?).getD (F i) else F i)) = (if i = a then o else if n ≤ i then ((ds ++ (o2 :: ds2))[i - n]?).getD (F i) else F i)
    by_cases e : i = n + ds.length
    · subst e
      rw [if_pos rfl, if_neg (by omega), if_pos (by omega), Nat.add_sub_cancel_left, List.getElem?_append_right (Nat.le_refl _), Nat.sub_self]
      rfl
    · rw [if_neg e]
      by_cases e1 : i = a
      · rw [if_pos e1, if_pos e1, if_neg (by omega)]
      · rw [if_neg e1, if_neg e1]
        by_cases e2 : n ≤ i
        · rw [if_pos e2, if_pos e2]
          by_cases e3 : i - n < ds.length
          · rw [if_neg (by omega), List.getElem?_append_left e3, List.getElem?_append_left e3]
          · rw [if_pos (by omega), List.getElem?_append_right (by omega), List.getElem?_append_right (by omega), show i - n - ds.length = (i - (n + ds.length + 1)) + 1 by omega]
            rfl
        · rw [if_neg e2, if_neg e2, if_neg (by omega)]
  · show n + ds.length + 1 + ds2.length = n + (ds ++ (o2 :: ds2)).length
    rw [List.length_append, List.length_cons]
    omega
end MG
section KE
variable {l : Launch} {j pc : Nat} {L : jLo} {st : List Value} {v : Option Value} {G' : jG} {F : Nat → va_E} {a n S T q : Nat} {o : va_E} {ds : List va_E}
theorem ke_new {idx c9 K : Nat} (hi : jIns j pc = some (.new idx, 3, c9)) (hK : (jdv c9).length = K) (hq : n + ds.length = q) (hT : S + K = T) (ha : a < n) (hlim : q < 1000000) (hb1 : q + 1 ≤ G'.2.1) (hb2 : T ≤ G'.2.2) (k : jE l j (pc + 3) L (.ref q :: st) (mkG F a o n (ds ++ [.inr (c9, jdv c9)]) T) v G') : jE l j pc L st (mkG F a o n ds S) v G' := by
  subst hq hT hK
  refine je_new hi hlim hb1 hb2 ?_
  have e := mkG_new (F := F) (o := o) (ds := ds) (S := S) (c := .inr (c9, jdv c9)) (S' := S + (jdv c9).length) ha
  show jE l j (pc + 3) L (.ref (n + ds.length) :: st) (va_up (mkG F a o n ds S).1 (n + ds.length) (.inr (c9, jdv c9)), n + ds.length + 1, S + (jdv c9).length) v G'
  rw [e]
  exact k
theorem ke_newai {z : Int} {N : Nat} (hi : jIns j pc = some (.newarray .int, 2, 0)) (h0 : 0 ≤ z) (h1 : z ≤ 60000) (hz : z.toNat = N) (hq : n + ds.length = q) (hT : S + N = T) (ha : a < n) (hlim : q < 1000000) (hb1 : q + 1 ≤ G'.2.1) (hb2 : T ≤ G'.2.2) (k : jE l j (pc + 2) L (.ref q :: st) (mkG F a o n (ds ++ [.inl (13, N, .inl (fun _ => 0))]) T) v G') : jE l j pc L (.int (jI z) :: st) (mkG F a o n ds S) v G' := by
  subst hq hT hz
  refine je_newai hi h0 h1 hlim hb1 hb2 ?_
  have e := mkG_new (F := F) (o := o) (ds := ds) (S := S) (c := .inl (13, z.toNat, .inl (fun _ => 0))) (S' := S + z.toNat) ha
  show jE l j (pc + 2) L (.ref (n + ds.length) :: st) (va_up (mkG F a o n ds S).1 (n + ds.length) (.inl (13, z.toNat, .inl (fun _ => 0))), n + ds.length + 1, S + z.toNat) v G'
  rw [e]
  exact k
theorem ke_newaz {z : Int} {N : Nat} (hi : jIns j pc = some (.newarray .boolean, 2, 0)) (h0 : 0 ≤ z) (h1 : z ≤ 60000) (hz : z.toNat = N) (hq : n + ds.length = q) (hT : S + N = T) (ha : a < n) (hlim : q < 1000000) (hb1 : q + 1 ≤ G'.2.1) (hb2 : T ≤ G'.2.2) (k : jE l j (pc + 2) L (.ref q :: st) (mkG F a o n (ds ++ [.inl (15, N, .inl (fun _ => 0))]) T) v G') : jE l j pc L (.int (jI z) :: st) (mkG F a o n ds S) v G' := by
  subst hq hT hz
  refine je_newaz hi h0 h1 hlim hb1 hb2 ?_
  have e := mkG_new (F := F) (o := o) (ds := ds) (S := S) (c := .inl (15, z.toNat, .inl (fun _ => 0))) (S' := S + z.toNat) ha
  show jE l j (pc + 2) L (.ref (n + ds.length) :: st) (va_up (mkG F a o n ds S).1 (n + ds.length) (.inl (15, z.toNat, .inl (fun _ => 0))), n + ds.length + 1, S + z.toNat) v G'
  rw [e]
  exact k
theorem ke_newq {idx kd : Nat} {z : Int} {N : Nat} (g : Nat → Nat) (hi : jIns j pc = some (.anewarray idx, 3, kd)) (h0 : 0 ≤ z) (h1 : z ≤ 60000) (hz : z.toNat = N) (hq : n + ds.length = q) (hT : S + N = T) (ha : a < n) (hlim : q < 1000000) (hb1 : q + 1 ≤ G'.2.1) (hb2 : T ≤ G'.2.2) (k : jE l j (pc + 3) L (.ref q :: st) (mkG F a o n (ds ++ [.inl (kd, N, .inr (.inr (.inr (.inr (rfN g 0)))))]) T) v G') : jE l j pc L (.int (jI z) :: st) (mkG F a o n ds S) v G' := by
  subst hq hT hz
  refine je_newq hi h0 h1 hlim hb1 hb2 ?_
  have e := mkG_new (F := F) (o := o) (ds := ds) (S := S) (c := .inl (kd, z.toNat, .inr (.inr (.inr (.inr (fun _ => none)))))) (S' := S + z.toNat) ha
  show jE l j (pc + 3) L (.ref (n + ds.length) :: st) (va_up (mkG F a o n ds S).1 (n + ds.length) (.inl (kd, z.toNat, .inr (.inr (.inr (.inr (fun _ => none)))))), n + ds.length + 1, S + z.toNat) v G'
  rw [e]
  exact k
theorem ke_putF {b idx f9 : Nat} {fs : List Value} {dn : String} {ty : FieldType} (hi : jIns j pc = some (.putfield idx, 3, f9)) (hk : jfd f9 = some (jOw j, dn, true)) (hin : (jY j).name = "<init>") (hty : parseFieldDescriptor dn = some ty) (hr9 : (∃ n, ty = .object n) ∨ ∃ t, ty = .array t) (ho : o = .inr (f9 / 1000, fs)) (hl : f9 % 1000 < fs.length) (k : jE l j (pc + 3) L st (mkG F a (.inr (f9 / 1000, fs.set (f9 % 1000) (.ref b))) n ds S) v G') : jE l j pc L (.ref b :: .ref a :: st) (mkG F a o n ds S) v G' := by
  refine je_putF hi hk hin hty hr9 (mkG_o.trans ho) hl ?_
  rw [mkG_up]
  exact k
theorem ke_puti {idx f9 : Nat} {fs : List Value} {x : Int32} {cn : String} (hi : jIns j pc = some (.putfield idx, 3, f9)) (hk : jfd f9 = some (cn, "I", false)) (ho : o = .inr (f9 / 1000, fs)) (hl : f9 % 1000 < fs.length) (k : jE l j (pc + 3) L st (mkG F a (.inr (f9 / 1000, fs.set (f9 % 1000) (.int x))) n ds S) v G') : jE l j pc L (.int x :: .ref a :: st) (mkG F a o n ds S) v G' := by
  refine je_puti hi hk (mkG_o.trans ho) hl ?_
  rw [mkG_up]
  exact k
theorem ke_getf {idx f9 : Nat} {fs : List Value} {w : Value} (hi : jIns j pc = some (.getfield idx, 3, f9)) (ho : o = .inr (f9 / 1000, fs)) (hv : fs[f9 % 1000]? = some w) (k : jE l j (pc + 3) L (w :: st) (mkG F a o n ds S) v G') : jE l j pc L (.ref a :: st) (mkG F a o n ds S) v G' := je_getf hi (mkG_o.trans ho) hv k
theorem ke_callI {idx j2 S2 : Nat} {as rest stk : List Value} {c o2 : va_E} {ds2 : List va_E} (hi : jIns j pc = some (.invokespecial idx, 3, j2)) (hj2 : j2 < 359) (hk : Nat.blt (jK j2) (jK j) = true) (ha : a < n) (hq : n + ds.length = q) (hM : ∀ F', jCl l j2 (.ref q :: as) (mkG F' q c (q + 1) [] S) none (mkG F' q o2 (q + 1) ds2 S2)) (hT : S2 = T) (hl : as.length = jNp j2) (hst : (rest.map fun v => v.category).sum ≤ 8) (hb1 : q + 1 + ds2.length ≤ G'.2.1) (hb2 : T ≤ G'.2.2) (hsk : stk = as.reverse ++ .ref q :: rest) (k : jE l j (pc + 3) L rest (mkG F a o n (ds ++ (o2 :: ds2)) T) v G') : jE l j pc L stk (mkG F a o n (ds ++ [c]) S) v G' := by
  subst hT
  have hc : (mkG F a o n (ds ++ [c]) S).1 q = c := by rw [← hq]; exact mkG_d ha (by rw [List.getElem?_append_right (Nat.le_refl _), Nat.sub_self]; rfl)
  have hM1 := hM (mkG F a o n (ds ++ [c]) S).1
  rw [mkG_ret ha hq, mkG_ret ha hq] at hM1
  refine je_callI hi hj2 hk hM1 hl hst ?_ hb2 hsk k
  show n + (ds ++ (o2 :: ds2)).length ≤ G'.2.1
  rw [List.length_append, List.length_cons]
  omega
theorem ke_aast {N kd ci i1 i2 q2 : Nat} {f : Nat → Option Nat} {vs : List Value} {z : Int} {zn : Nat} {D1 : List va_E} (hi : jIns j pc = some (.aastore, 1, 0)) (hkd : (kd = 16 ∧ ci = 8) ∨ (kd = 17 ∧ ci = 9)) (ha : a < n) (e1 : n + i1 = q) (e2 : n + i2 = q2) (hg : ds[i1]? = some (.inl (kd, N, .inr (.inr (.inr (.inr f)))))) (hb : ds[i2]? = some (.inr (ci, vs))) (h0 : 0 ≤ z) (h1 : z < (N : Int)) (hN : N ≤ 60000) (hz : z.toNat = zn) (hD : ds.set i1 (.inl (kd, N, .inr (.inr (.inr (.inr (va_up f zn (some q2))))))) = D1) (k : jE l j (pc + 1) L st (mkG F a o n D1 S) v G') : jE l j pc L (.ref q2 :: .int (jI z) :: .ref q :: st) (mkG F a o n ds S) v G' := by
  subst e1 e2 hz hD
  refine je_aast hi hkd (mkG_d ha hg) (mkG_d ha hb) h0 h1 (by omega) ?_
  rw [mkG_ud ha (List.getElem?_eq_some_iff.mp hg).1]
  exact k
end KE
theorem ci_max (l : Launch) (G : jG) (x : Int) (x0 : 0 ≤ x) (x1 : x ≤ 60000) : jCl l 357 [.int (jI x), .int (jI 0)] G (some (.int (jI x))) G := by
  refine jCl.of (by omega) (Nat.le_of_ble_eq_true rfl) (Nat.le_refl _) (Nat.le_refl _) ⟨.int, rfl, rfl⟩ ?_
  refine je_iload_n rfl rfl ?_
  refine je_iload_n rfl rfl ?_
  refine je_icmp_lt (tgt := 9) rfl rfl ⟨by omega, by omega⟩ ⟨by omega, by omega⟩ (fun c => absurd c (by omega)) (fun _ => ?_)
  show jE _ _ 5 _ _ _ _ _
  refine je_iload_n rfl rfl ?_
  refine je_goto (tgt := 10) rfl rfl ?_
  exact je_iret rfl
theorem ci_Row (l : Launch) (a S N : Nat) (hN : N ≤ 60000) (ha : a < 990000) (F : Nat → va_E) : jCl l 98 [.ref a, .int (jI (N : Int))] (mkG F a (.inr (8, jdv 8)) (a + 1) [] S) none (mkG F a (.inr (8, [.ref (a + 1), .int (jI 0)])) (a + 1) [.inl (13, N, .inl (fun _ => 0))] (S + N)) := by
  refine jCl.of (by omega) (Nat.le_of_ble_eq_true rfl) (by show a + 1 + 0 ≤ a + 1 + 1; omega) (by show S ≤ S + N; omega) rfl ?_
  refine je_aload_n rfl rfl ?_
  refine je_obj rfl (Nat.le_of_ble_eq_true rfl) rfl ?_
  refine je_aload_n rfl rfl ?_
  refine je_iload_n rfl rfl ?_
  refine je_iconst rfl ?_
  show jE _ _ 7 _ _ _ _ _
  refine je_callS (as := [.int (jI (N : Int)), .int (jI 0)]) (rest := [.ref a]) rfl (by omega) rfl (ci_max l _ (N : Int) (by omega) (by omega)) rfl (Nat.le_of_ble_eq_true rfl) (by show a + 1 + 0 ≤ a + 1 + 1; omega) (by show S ≤ S + N; omega) rfl ?_
  show jE _ _ 10 _ _ _ _ _
  refine ke_newai (N := N) (q := a + 1) (T := S + N) rfl (by omega) (by omega) rfl rfl rfl (by omega) (by omega) (by show a + 1 + 1 ≤ a + 1 + 1; omega) (Nat.le_refl _) ?_
  refine ke_putF (ty := .array .int) rfl rfl rfl (by decide +kernel) (Or.inr ⟨_, rfl⟩) rfl (Nat.le_of_ble_eq_true rfl) ?_
  show jE _ _ 15 _ _ _ _ _
  refine je_aload_n rfl rfl ?_
  refine je_iconst rfl ?_
  refine ke_puti rfl rfl rfl (Nat.le_of_ble_eq_true rfl) ?_
  show jE _ _ 20 _ _ _ _ _
  exact je_ret rfl
