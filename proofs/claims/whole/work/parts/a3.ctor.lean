/-! constructors of what is held -/
set_option maxRecDepth 20000 in
set_option maxHeartbeats 1000000 in
theorem ci_3 (l : Launch) (a S : Nat) (ha : a < 980000) (F : Nat → va_E) : jCl l 32 [.ref a] (mkG F a (.inr (3, jdv 3)) (a + 1) [] S) none (mkG F a (.inr (3, [.ref (a + 1), .ref (a + 2), .int (jI 0)])) (a + 1) [.inl (13, 64, .inl (fun _ => 0)), .inl (13, 64, .inl (fun _ => 0))] (S + 128)) := by
  refine jCl.of (by omega) (Nat.le_of_ble_eq_true rfl) (by show a + 1 + 0 ≤ a + 1 + 2; omega) (by show S ≤ S + 128; omega) rfl ?_
  refine je_aload_n rfl rfl ?_
  refine je_obj rfl (Nat.le_of_ble_eq_true rfl) rfl ?_
  refine je_aload_n rfl rfl ?_
  refine je_bipush rfl rfl ?_
  show jE _ _ 7 _ _ _ _ _
  refine ke_newai (N := 64) (q := a + 1) (T := S + 64) rfl (by decide) (by decide) rfl rfl (by omega) (by omega) (by omega) (by show a + 2 ≤ a + 1 + 2; omega) (by show S + 64 ≤ S + 128; omega) ?_
  refine ke_putF (ty := (.array .int)) rfl rfl rfl (by decide +kernel) (Or.inr ⟨_, rfl⟩) rfl (Nat.le_of_ble_eq_true rfl) ?_
  refine je_aload_n rfl rfl ?_
  refine je_bipush rfl rfl ?_
  refine ke_newai (N := 64) (q := a + 2) (T := S + 128) rfl (by decide) (by decide) rfl rfl (by omega) (by omega) (by omega) (by show a + 3 ≤ a + 1 + 2; omega) (by show S + 128 ≤ S + 128; omega) ?_
  show jE _ _ 17 _ _ _ _ _
  refine ke_putF (ty := (.array .int)) rfl rfl rfl (by decide +kernel) (Or.inr ⟨_, rfl⟩) rfl (Nat.le_of_ble_eq_true rfl) ?_
  refine je_aload_n rfl rfl ?_
  refine je_iconst rfl ?_
  refine ke_puti rfl rfl rfl (Nat.le_of_ble_eq_true rfl) ?_
  show jE _ _ 25 _ _ _ _ _
  exact je_ret rfl
set_option maxRecDepth 20000 in
set_option maxHeartbeats 1000000 in
theorem ci_9 (l : Launch) (a S : Nat) (ha : a < 900000) (F : Nat → va_E) : jCl l 110 [.ref a] (mkG F a (.inr (9, jdv 9)) (a + 1) [] S) none (mkG F a (.inr (9, [.ref (a + 1), .ref (a + 3), .ref (a + 5), .ref (a + 7), .ref (a + 14), .ref (a + 15), .ref (a + 16), .ref (a + 17), .int (jI 0), .int (jI 0)])) (a + 1) [.inr (8, [.ref (a + 2), .int (jI 0)]), .inl (13, 64, .inl (fun _ => 0)), .inr (8, [.ref (a + 4), .int (jI 0)]), .inl (13, 64, .inl (fun _ => 0)), .inr (8, [.ref (a + 6), .int (jI 0)]), .inl (13, 64, .inl (fun _ => 0)), .inl (16, 3, .inr (.inr (.inr (.inr (rfN (fun k => a + 8 + 2 * k) 3))))), .inr (8, [.ref (a + 9), .int (jI 0)]), .inl (13, 300, .inl (fun _ => 0)), .inr (8, [.ref (a + 11), .int (jI 0)]), .inl (13, 300, .inl (fun _ => 0)), .inr (8, [.ref (a + 13), .int (jI 0)]), .inl (13, 300, .inl (fun _ => 0)), .inl (15, 64, .inl (fun _ => 0)), .inl (13, 64, .inl (fun _ => 0)), .inl (13, 64, .inl (fun _ => 0)), .inl (13, 64, .inl (fun _ => 0))] (S + 1363)) := by
  refine jCl.of (by omega) (Nat.le_of_ble_eq_true rfl) (by show a + 1 + 0 ≤ a + 1 + 17; omega) (by show S ≤ S + 1363; omega) rfl ?_
  refine je_aload_n rfl rfl ?_
  refine je_obj rfl (Nat.le_of_ble_eq_true rfl) rfl ?_
  refine je_aload_n rfl rfl ?_
  refine ke_new (K := 2) (q := a + 1) (T := S + 2) rfl rfl rfl (by omega) (by omega) (by omega) (by show a + 2 ≤ a + 1 + 17; omega) (by show S + 2 ≤ S + 1363; omega) ?_
  show jE _ _ 8 _ _ _ _ _
  refine je_dup rfl rfl ?_
  refine je_bipush rfl rfl ?_
  refine ke_callI (q := a + 1) (T := S + 66) (as := [.int (jI 64)]) rfl (by omega) rfl (by omega) rfl (fun F' => ci_Row l (a + 1) (S + 2) 64 (by omega) (by omega) F') (by omega) rfl (Nat.le_of_ble_eq_true rfl) (by show a + 3 ≤ a + 1 + 17; omega) (by show S + 66 ≤ S + 1363; omega) rfl ?_
  refine ke_putF (ty := (.object "TailPatches$Row")) rfl rfl rfl (by decide +kernel) (Or.inl ⟨_, rfl⟩) rfl (Nat.le_of_ble_eq_true rfl) ?_
  refine je_aload_n rfl rfl ?_
  show jE _ _ 18 _ _ _ _ _
  refine ke_new (K := 2) (q := a + 3) (T := S + 68) rfl rfl rfl (by omega) (by omega) (by omega) (by show a + 4 ≤ a + 1 + 17; omega) (by show S + 68 ≤ S + 1363; omega) ?_
  refine je_dup rfl rfl ?_
  refine je_bipush rfl rfl ?_
  refine ke_callI (q := a + 3) (T := S + 132) (as := [.int (jI 64)]) rfl (by omega) rfl (by omega) rfl (fun F' => ci_Row l (a + 3) (S + 68) 64 (by omega) (by omega) F') (by omega) rfl (Nat.le_of_ble_eq_true rfl) (by show a + 5 ≤ a + 1 + 17; omega) (by show S + 132 ≤ S + 1363; omega) rfl ?_
  refine ke_putF (ty := (.object "TailPatches$Row")) rfl rfl rfl (by decide +kernel) (Or.inl ⟨_, rfl⟩) rfl (Nat.le_of_ble_eq_true rfl) ?_
  show jE _ _ 30 _ _ _ _ _
  refine je_aload_n rfl rfl ?_
  refine ke_new (K := 2) (q := a + 5) (T := S + 134) rfl rfl rfl (by omega) (by omega) (by omega) (by show a + 6 ≤ a + 1 + 17; omega) (by show S + 134 ≤ S + 1363; omega) ?_
  refine je_dup rfl rfl ?_
  refine je_bipush rfl rfl ?_
  refine ke_callI (q := a + 5) (T := S + 198) (as := [.int (jI 64)]) rfl (by omega) rfl (by omega) rfl (fun F' => ci_Row l (a + 5) (S + 134) 64 (by omega) (by omega) F') (by omega) rfl (Nat.le_of_ble_eq_true rfl) (by show a + 7 ≤ a + 1 + 17; omega) (by show S + 198 ≤ S + 1363; omega) rfl ?_
  show jE _ _ 40 _ _ _ _ _
  refine ke_putF (ty := (.object "TailPatches$Row")) rfl rfl rfl (by decide +kernel) (Or.inl ⟨_, rfl⟩) rfl (Nat.le_of_ble_eq_true rfl) ?_
  refine je_aload_n rfl rfl ?_
  refine je_iconst rfl ?_
  refine ke_newq (N := 3) (q := a + 7) (T := S + 201) (fun k => a + 8 + 2 * k) rfl (by decide) (by decide) rfl rfl (by omega) (by omega) (by omega) (by show a + 8 ≤ a + 1 + 17; omega) (by show S + 201 ≤ S + 1363; omega) ?_
  refine ke_putF (ty := (.array (.object "TailPatches$Row"))) rfl rfl rfl (by decide +kernel) (Or.inr ⟨_, rfl⟩) rfl (Nat.le_of_ble_eq_true rfl) ?_
  show jE _ _ 51 _ _ _ _ _
  refine je_iconst rfl ?_
  refine je_istore_n rfl (Nat.le_of_ble_eq_true rfl) rfl ?_
  refine je_iload_n rfl rfl ?_
  refine je_iconst rfl ?_
  refine je_icmp_ge (tgt := 80) rfl rfl ⟨by omega, by omega⟩ ⟨by omega, by omega⟩ (fun c => absurd c (by decide)) (fun _ => ?_)
  show jE _ _ 58 _ _ _ _ _
  show jE _ _ 58 _ _ _ _ _
  refine je_aload_n rfl rfl ?_
  refine ke_getf rfl rfl rfl ?_
  refine je_iload_n rfl rfl ?_
  refine ke_new (K := 2) (q := a + 8) (T := S + 203) rfl rfl rfl (by omega) (by omega) (by omega) (by show a + 9 ≤ a + 1 + 17; omega) (by show S + 203 ≤ S + 1363; omega) ?_
  refine je_dup rfl rfl ?_
  show jE _ _ 67 _ _ _ _ _
  refine je_sipush rfl rfl ?_
  refine ke_callI (q := a + 8) (T := S + 503) (as := [.int (jI 300)]) rfl (by omega) rfl (by omega) rfl (fun F' => ci_Row l (a + 8) (S + 203) 300 (by omega) (by omega) F') (by omega) rfl (Nat.le_of_ble_eq_true rfl) (by show a + 10 ≤ a + 1 + 17; omega) (by show S + 503 ≤ S + 1363; omega) rfl ?_
  refine ke_aast (q := a + 7) (q2 := a + 8) (i1 := 6) (i2 := 7) (zn := 0) rfl (Or.inl ⟨rfl, rfl⟩) (by omega) rfl rfl rfl rfl (by decide) (by decide) (by omega) rfl rfl ?_
  refine je_iinc rfl rfl rfl ?_
  refine je_goto (tgt := 53) rfl rfl ?_
  show jE _ _ 53 _ _ _ _ _
  refine je_iload_n rfl rfl ?_
  refine je_iconst rfl ?_
  refine je_icmp_ge (tgt := 80) rfl rfl ⟨by omega, by omega⟩ ⟨by omega, by omega⟩ (fun c => absurd c (by decide)) (fun _ => ?_)
  show jE _ _ 58 _ _ _ _ _
  refine je_aload_n rfl rfl ?_
  refine ke_getf rfl rfl rfl ?_
  show jE _ _ 62 _ _ _ _ _
  refine je_iload_n rfl rfl ?_
  refine ke_new (K := 2) (q := a + 10) (T := S + 505) rfl rfl rfl (by omega) (by omega) (by omega) (by show a + 11 ≤ a + 1 + 17; omega) (by show S + 505 ≤ S + 1363; omega) ?_
  refine je_dup rfl rfl ?_
  refine je_sipush rfl rfl ?_
  refine ke_callI (q := a + 10) (T := S + 805) (as := [.int (jI 300)]) rfl (by omega) rfl (by omega) rfl (fun F' => ci_Row l (a + 10) (S + 505) 300 (by omega) (by omega) F') (by omega) rfl (Nat.le_of_ble_eq_true rfl) (by show a + 12 ≤ a + 1 + 17; omega) (by show S + 805 ≤ S + 1363; omega) rfl ?_
  show jE _ _ 73 _ _ _ _ _
  refine ke_aast (q := a + 7) (q2 := a + 10) (i1 := 6) (i2 := 9) (zn := 1) rfl (Or.inl ⟨rfl, rfl⟩) (by omega) rfl rfl rfl rfl (by decide) (by decide) (by omega) rfl rfl ?_
  refine je_iinc rfl rfl rfl ?_
  refine je_goto (tgt := 53) rfl rfl ?_
  refine je_iload_n rfl rfl ?_
  refine je_iconst rfl ?_
  show jE _ _ 55 _ _ _ _ _
  refine je_icmp_ge (tgt := 80) rfl rfl ⟨by omega, by omega⟩ ⟨by omega, by omega⟩ (fun c => absurd c (by decide)) (fun _ => ?_)
  show jE _ _ 58 _ _ _ _ _
  refine je_aload_n rfl rfl ?_
  refine ke_getf rfl rfl rfl ?_
  refine je_iload_n rfl rfl ?_
  refine ke_new (K := 2) (q := a + 12) (T := S + 807) rfl rfl rfl (by omega) (by omega) (by omega) (by show a + 13 ≤ a + 1 + 17; omega) (by show S + 807 ≤ S + 1363; omega) ?_
  show jE _ _ 66 _ _ _ _ _
  refine je_dup rfl rfl ?_
  refine je_sipush rfl rfl ?_
  refine ke_callI (q := a + 12) (T := S + 1107) (as := [.int (jI 300)]) rfl (by omega) rfl (by omega) rfl (fun F' => ci_Row l (a + 12) (S + 807) 300 (by omega) (by omega) F') (by omega) rfl (Nat.le_of_ble_eq_true rfl) (by show a + 14 ≤ a + 1 + 17; omega) (by show S + 1107 ≤ S + 1363; omega) rfl ?_
  refine ke_aast (q := a + 7) (q2 := a + 12) (i1 := 6) (i2 := 11) (zn := 2) rfl (Or.inl ⟨rfl, rfl⟩) (by omega) rfl rfl rfl rfl (by decide) (by decide) (by omega) rfl rfl ?_
  refine je_iinc rfl rfl rfl ?_
  show jE _ _ 77 _ _ _ _ _
  refine je_goto (tgt := 53) rfl rfl ?_
  refine je_iload_n rfl rfl ?_
  refine je_iconst rfl ?_
  refine je_icmp_ge (tgt := 80) rfl rfl ⟨by omega, by omega⟩ ⟨by omega, by omega⟩ (fun _ => ?_) (fun c => absurd (show (_ : Int) ≤ _ by decide) c)
  show jE _ _ 80 _ _ _ _ _
  refine je_aload_n rfl rfl ?_
  show jE _ _ 81 _ _ _ _ _
  refine je_bipush rfl rfl ?_
  refine ke_newaz (N := 64) (q := a + 14) (T := S + 1171) rfl (by decide) (by decide) rfl rfl (by omega) (by omega) (by omega) (by show a + 15 ≤ a + 1 + 17; omega) (by show S + 1171 ≤ S + 1363; omega) ?_
  refine ke_putF (ty := (.array .boolean)) rfl rfl rfl (by decide +kernel) (Or.inr ⟨_, rfl⟩) rfl (Nat.le_of_ble_eq_true rfl) ?_
  refine je_aload_n rfl rfl ?_
  refine je_bipush rfl rfl ?_
  show jE _ _ 91 _ _ _ _ _
  refine ke_newai (N := 64) (q := a + 15) (T := S + 1235) rfl (by decide) (by decide) rfl rfl (by omega) (by omega) (by omega) (by show a + 16 ≤ a + 1 + 17; omega) (by show S + 1235 ≤ S + 1363; omega) ?_
  refine ke_putF (ty := (.array .int)) rfl rfl rfl (by decide +kernel) (Or.inr ⟨_, rfl⟩) rfl (Nat.le_of_ble_eq_true rfl) ?_
  refine je_aload_n rfl rfl ?_
  refine je_bipush rfl rfl ?_
  refine ke_newai (N := 64) (q := a + 16) (T := S + 1299) rfl (by decide) (by decide) rfl rfl (by omega) (by omega) (by omega) (by show a + 17 ≤ a + 1 + 17; omega) (by show S + 1299 ≤ S + 1363; omega) ?_
  show jE _ _ 101 _ _ _ _ _
  refine ke_putF (ty := (.array .int)) rfl rfl rfl (by decide +kernel) (Or.inr ⟨_, rfl⟩) rfl (Nat.le_of_ble_eq_true rfl) ?_
  refine je_aload_n rfl rfl ?_
  refine je_bipush rfl rfl ?_
  refine ke_newai (N := 64) (q := a + 17) (T := S + 1363) rfl (by decide) (by decide) rfl rfl (by omega) (by omega) (by omega) (by show a + 18 ≤ a + 1 + 17; omega) (by show S + 1363 ≤ S + 1363; omega) ?_
  refine ke_putF (ty := (.array .int)) rfl rfl rfl (by decide +kernel) (Or.inr ⟨_, rfl⟩) rfl (Nat.le_of_ble_eq_true rfl) ?_
  show jE _ _ 112 _ _ _ _ _
  refine je_aload_n rfl rfl ?_
  refine je_iconst rfl ?_
  refine ke_puti rfl rfl rfl (Nat.le_of_ble_eq_true rfl) ?_
  refine je_aload_n rfl rfl ?_
  refine je_iconst rfl ?_
  show jE _ _ 119 _ _ _ _ _
  refine ke_puti rfl rfl rfl (Nat.le_of_ble_eq_true rfl) ?_
  show jE _ _ 122 _ _ _ _ _
  exact je_ret rfl
set_option maxRecDepth 20000 in
set_option maxHeartbeats 1000000 in
theorem ci_10 (l : Launch) (a S : Nat) (ha : a < 900000) (F : Nat → va_E) : jCl l 120 [.ref a] (mkG F a (.inr (10, jdv 10)) (a + 1) [] S) none (mkG F a (.inr (10, [.ref (a + 1), .int (jI 0), .ref (a + 2), .ref (a + 3), .ref (a + 4), .ref (a + 5)])) (a + 1) [.inl (13, 64, .inl (fun _ => 0)), .inl (13, 64, .inl (fun _ => 0)), .inl (13, 64, .inl (fun _ => 0)), .inl (13, 64, .inl (fun _ => 0)), .inl (13, 65, .inl (fun _ => 0))] (S + 321)) := by
  refine jCl.of (by omega) (Nat.le_of_ble_eq_true rfl) (by show a + 1 + 0 ≤ a + 1 + 5; omega) (by show S ≤ S + 321; omega) rfl ?_
  refine je_aload_n rfl rfl ?_
  refine je_obj rfl (Nat.le_of_ble_eq_true rfl) rfl ?_
  refine je_aload_n rfl rfl ?_
  refine je_bipush rfl rfl ?_
  show jE _ _ 7 _ _ _ _ _
  refine ke_newai (N := 64) (q := a + 1) (T := S + 64) rfl (by decide) (by decide) rfl rfl (by omega) (by omega) (by omega) (by show a + 2 ≤ a + 1 + 5; omega) (by show S + 64 ≤ S + 321; omega) ?_
  refine ke_putF (ty := (.array .int)) rfl rfl rfl (by decide +kernel) (Or.inr ⟨_, rfl⟩) rfl (Nat.le_of_ble_eq_true rfl) ?_
  refine je_aload_n rfl rfl ?_
  refine je_iconst rfl ?_
  refine ke_puti rfl rfl rfl (Nat.le_of_ble_eq_true rfl) ?_
  show jE _ _ 17 _ _ _ _ _
  refine je_aload_n rfl rfl ?_
  refine je_bipush rfl rfl ?_
  refine ke_newai (N := 64) (q := a + 2) (T := S + 128) rfl (by decide) (by decide) rfl rfl (by omega) (by omega) (by omega) (by show a + 3 ≤ a + 1 + 5; omega) (by show S + 128 ≤ S + 321; omega) ?_
  refine ke_putF (ty := (.array .int)) rfl rfl rfl (by decide +kernel) (Or.inr ⟨_, rfl⟩) rfl (Nat.le_of_ble_eq_true rfl) ?_
  refine je_aload_n rfl rfl ?_
  show jE _ _ 26 _ _ _ _ _
  refine je_bipush rfl rfl ?_
  refine ke_newai (N := 64) (q := a + 3) (T := S + 192) rfl (by decide) (by decide) rfl rfl (by omega) (by omega) (by omega) (by show a + 4 ≤ a + 1 + 5; omega) (by show S + 192 ≤ S + 321; omega) ?_
  refine ke_putF (ty := (.array .int)) rfl rfl rfl (by decide +kernel) (Or.inr ⟨_, rfl⟩) rfl (Nat.le_of_ble_eq_true rfl) ?_
  refine je_aload_n rfl rfl ?_
  refine je_bipush rfl rfl ?_
  show jE _ _ 36 _ _ _ _ _
  refine ke_newai (N := 64) (q := a + 4) (T := S + 256) rfl (by decide) (by decide) rfl rfl (by omega) (by omega) (by omega) (by show a + 5 ≤ a + 1 + 5; omega) (by show S + 256 ≤ S + 321; omega) ?_
  refine ke_putF (ty := (.array .int)) rfl rfl rfl (by decide +kernel) (Or.inr ⟨_, rfl⟩) rfl (Nat.le_of_ble_eq_true rfl) ?_
  refine je_aload_n rfl rfl ?_
  refine je_bipush rfl rfl ?_
  refine ke_newai (N := 65) (q := a + 5) (T := S + 321) rfl (by decide) (by decide) rfl rfl (by omega) (by omega) (by omega) (by show a + 6 ≤ a + 1 + 5; omega) (by show S + 321 ≤ S + 321; omega) ?_
  show jE _ _ 46 _ _ _ _ _
  refine ke_putF (ty := (.array .int)) rfl rfl rfl (by decide +kernel) (Or.inr ⟨_, rfl⟩) rfl (Nat.le_of_ble_eq_true rfl) ?_
  show jE _ _ 49 _ _ _ _ _
  exact je_ret rfl
set_option maxRecDepth 20000 in
set_option maxHeartbeats 1000000 in
theorem ci_0 (l : Launch) (a S : Nat) (ha : a < 900000) (F : Nat → va_E) : jCl l 0 [.ref a] (mkG F a (.inr (0, jdv 0)) (a + 1) [] S) none (mkG F a (.inr (0, [.ref (a + 1), .ref (a + 2), .ref (a + 3), .ref (a + 4), .ref (a + 5), .int (jI 0), .ref (a + 6), .int (jI 0), .int (jI 0)])) (a + 1) [.inl (13, 64, .inl (fun _ => 0)), .inl (13, 64, .inl (fun _ => 0)), .inl (13, 64, .inl (fun _ => 0)), .inl (13, 64, .inl (fun _ => 0)), .inl (13, 64, .inl (fun _ => 0)), .inr (3, [.ref ((a + 6) + 1), .ref ((a + 6) + 2), .int (jI 0)]), .inl (13, 64, .inl (fun _ => 0)), .inl (13, 64, .inl (fun _ => 0))] (S + 451)) := by
  refine jCl.of (by omega) (Nat.le_of_ble_eq_true rfl) (by show a + 1 + 0 ≤ a + 1 + 8; omega) (by show S ≤ S + 451; omega) rfl ?_
  refine je_aload_n rfl rfl ?_
  refine je_obj rfl (Nat.le_of_ble_eq_true rfl) rfl ?_
  refine je_aload_n rfl rfl ?_
  refine je_bipush rfl rfl ?_
  show jE _ _ 7 _ _ _ _ _
  refine ke_newai (N := 64) (q := a + 1) (T := S + 64) rfl (by decide) (by decide) rfl rfl (by omega) (by omega) (by omega) (by show a + 2 ≤ a + 1 + 8; omega) (by show S + 64 ≤ S + 451; omega) ?_
  refine ke_putF (ty := (.array .int)) rfl rfl rfl (by decide +kernel) (Or.inr ⟨_, rfl⟩) rfl (Nat.le_of_ble_eq_true rfl) ?_
  refine je_aload_n rfl rfl ?_
  refine je_bipush rfl rfl ?_
  refine ke_newai (N := 64) (q := a + 2) (T := S + 128) rfl (by decide) (by decide) rfl rfl (by omega) (by omega) (by omega) (by show a + 3 ≤ a + 1 + 8; omega) (by show S + 128 ≤ S + 451; omega) ?_
  show jE _ _ 17 _ _ _ _ _
  refine ke_putF (ty := (.array .int)) rfl rfl rfl (by decide +kernel) (Or.inr ⟨_, rfl⟩) rfl (Nat.le_of_ble_eq_true rfl) ?_
  refine je_aload_n rfl rfl ?_
  refine je_bipush rfl rfl ?_
  refine ke_newai (N := 64) (q := a + 3) (T := S + 192) rfl (by decide) (by decide) rfl rfl (by omega) (by omega) (by omega) (by show a + 4 ≤ a + 1 + 8; omega) (by show S + 192 ≤ S + 451; omega) ?_
  refine ke_putF (ty := (.array .int)) rfl rfl rfl (by decide +kernel) (Or.inr ⟨_, rfl⟩) rfl (Nat.le_of_ble_eq_true rfl) ?_
  show jE _ _ 28 _ _ _ _ _
  refine je_aload_n rfl rfl ?_
  refine je_bipush rfl rfl ?_
  refine ke_newai (N := 64) (q := a + 4) (T := S + 256) rfl (by decide) (by decide) rfl rfl (by omega) (by omega) (by omega) (by show a + 5 ≤ a + 1 + 8; omega) (by show S + 256 ≤ S + 451; omega) ?_
  refine ke_putF (ty := (.array .int)) rfl rfl rfl (by decide +kernel) (Or.inr ⟨_, rfl⟩) rfl (Nat.le_of_ble_eq_true rfl) ?_
  refine je_aload_n rfl rfl ?_
  show jE _ _ 37 _ _ _ _ _
  refine je_bipush rfl rfl ?_
  refine ke_newai (N := 64) (q := a + 5) (T := S + 320) rfl (by decide) (by decide) rfl rfl (by omega) (by omega) (by omega) (by show a + 6 ≤ a + 1 + 8; omega) (by show S + 320 ≤ S + 451; omega) ?_
  refine ke_putF (ty := (.array .int)) rfl rfl rfl (by decide +kernel) (Or.inr ⟨_, rfl⟩) rfl (Nat.le_of_ble_eq_true rfl) ?_
  refine je_aload_n rfl rfl ?_
  refine je_iconst rfl ?_
  show jE _ _ 46 _ _ _ _ _
  refine ke_puti rfl rfl rfl (Nat.le_of_ble_eq_true rfl) ?_
  refine je_aload_n rfl rfl ?_
  refine ke_new (K := 3) (q := a + 6) (T := S + 323) rfl rfl rfl (by omega) (by omega) (by omega) (by show a + 7 ≤ a + 1 + 8; omega) (by show S + 323 ≤ S + 451; omega) ?_
  refine je_dup rfl rfl ?_
  refine ke_callI (q := a + 6) (T := S + 451) (as := []) rfl (by omega) rfl (by omega) rfl (fun F' => ci_3 l (a + 6) (S + 323) (by omega) F') (by omega) rfl (Nat.le_of_ble_eq_true rfl) (by show a + 9 ≤ a + 1 + 8; omega) (by show S + 451 ≤ S + 451; omega) rfl ?_
  show jE _ _ 57 _ _ _ _ _
  refine ke_putF (ty := (.object "TailPatches$Origins")) rfl rfl rfl (by decide +kernel) (Or.inl ⟨_, rfl⟩) rfl (Nat.le_of_ble_eq_true rfl) ?_
  refine je_aload_n rfl rfl ?_
  refine je_iconst rfl ?_
  refine ke_puti rfl rfl rfl (Nat.le_of_ble_eq_true rfl) ?_
  refine je_aload_n rfl rfl ?_
  show jE _ _ 66 _ _ _ _ _
  refine je_iconst rfl ?_
  refine ke_puti rfl rfl rfl (Nat.le_of_ble_eq_true rfl) ?_
  show jE _ _ 70 _ _ _ _ _
  exact je_ret rfl
set_option maxRecDepth 20000 in
set_option maxHeartbeats 1000000 in
theorem ci_4 (l : Launch) (a S : Nat) (ha : a < 900000) (F : Nat → va_E) : jCl l 47 [.ref a] (mkG F a (.inr (4, jdv 4)) (a + 1) [] S) none (mkG F a (.inr (4, [.ref (a + 1), .ref (a + 3), .ref (a + 5), .ref (a + 7), .ref (a + 9)])) (a + 1) [.inr (8, [.ref (a + 2), .int (jI 0)]), .inl (13, 300, .inl (fun _ => 0)), .inr (8, [.ref (a + 4), .int (jI 0)]), .inl (13, 64, .inl (fun _ => 0)), .inr (8, [.ref (a + 6), .int (jI 0)]), .inl (13, 64, .inl (fun _ => 0)), .inr (8, [.ref (a + 8), .int (jI 0)]), .inl (13, 300, .inl (fun _ => 0)), .inr (8, [.ref (a + 10), .int (jI 0)]), .inl (13, 300, .inl (fun _ => 0))] (S + 1038)) := by
  refine jCl.of (by omega) (Nat.le_of_ble_eq_true rfl) (by show a + 1 + 0 ≤ a + 1 + 10; omega) (by show S ≤ S + 1038; omega) rfl ?_
  refine je_aload_n rfl rfl ?_
  refine je_obj rfl (Nat.le_of_ble_eq_true rfl) rfl ?_
  refine je_aload_n rfl rfl ?_
  refine ke_new (K := 2) (q := a + 1) (T := S + 2) rfl rfl rfl (by omega) (by omega) (by omega) (by show a + 2 ≤ a + 1 + 10; omega) (by show S + 2 ≤ S + 1038; omega) ?_
  show jE _ _ 8 _ _ _ _ _
  refine je_dup rfl rfl ?_
  refine je_sipush rfl rfl ?_
  refine ke_callI (q := a + 1) (T := S + 302) (as := [.int (jI 300)]) rfl (by omega) rfl (by omega) rfl (fun F' => ci_Row l (a + 1) (S + 2) 300 (by omega) (by omega) F') (by omega) rfl (Nat.le_of_ble_eq_true rfl) (by show a + 3 ≤ a + 1 + 10; omega) (by show S + 302 ≤ S + 1038; omega) rfl ?_
  refine ke_putF (ty := (.object "TailPatches$Row")) rfl rfl rfl (by decide +kernel) (Or.inl ⟨_, rfl⟩) rfl (Nat.le_of_ble_eq_true rfl) ?_
  refine je_aload_n rfl rfl ?_
  show jE _ _ 19 _ _ _ _ _
  refine ke_new (K := 2) (q := a + 3) (T := S + 304) rfl rfl rfl (by omega) (by omega) (by omega) (by show a + 4 ≤ a + 1 + 10; omega) (by show S + 304 ≤ S + 1038; omega) ?_
  refine je_dup rfl rfl ?_
  refine je_bipush rfl rfl ?_
  refine ke_callI (q := a + 3) (T := S + 368) (as := [.int (jI 64)]) rfl (by omega) rfl (by omega) rfl (fun F' => ci_Row l (a + 3) (S + 304) 64 (by omega) (by omega) F') (by omega) rfl (Nat.le_of_ble_eq_true rfl) (by show a + 5 ≤ a + 1 + 10; omega) (by show S + 368 ≤ S + 1038; omega) rfl ?_
  refine ke_putF (ty := (.object "TailPatches$Row")) rfl rfl rfl (by decide +kernel) (Or.inl ⟨_, rfl⟩) rfl (Nat.le_of_ble_eq_true rfl) ?_
  show jE _ _ 31 _ _ _ _ _
  refine je_aload_n rfl rfl ?_
  refine ke_new (K := 2) (q := a + 5) (T := S + 370) rfl rfl rfl (by omega) (by omega) (by omega) (by show a + 6 ≤ a + 1 + 10; omega) (by show S + 370 ≤ S + 1038; omega) ?_
  refine je_dup rfl rfl ?_
  refine je_bipush rfl rfl ?_
  refine ke_callI (q := a + 5) (T := S + 434) (as := [.int (jI 64)]) rfl (by omega) rfl (by omega) rfl (fun F' => ci_Row l (a + 5) (S + 370) 64 (by omega) (by omega) F') (by omega) rfl (Nat.le_of_ble_eq_true rfl) (by show a + 7 ≤ a + 1 + 10; omega) (by show S + 434 ≤ S + 1038; omega) rfl ?_
  show jE _ _ 41 _ _ _ _ _
  refine ke_putF (ty := (.object "TailPatches$Row")) rfl rfl rfl (by decide +kernel) (Or.inl ⟨_, rfl⟩) rfl (Nat.le_of_ble_eq_true rfl) ?_
  refine je_aload_n rfl rfl ?_
  refine ke_new (K := 2) (q := a + 7) (T := S + 436) rfl rfl rfl (by omega) (by omega) (by omega) (by show a + 8 ≤ a + 1 + 10; omega) (by show S + 436 ≤ S + 1038; omega) ?_
  refine je_dup rfl rfl ?_
  refine je_sipush rfl rfl ?_
  show jE _ _ 52 _ _ _ _ _
  refine ke_callI (q := a + 7) (T := S + 736) (as := [.int (jI 300)]) rfl (by omega) rfl (by omega) rfl (fun F' => ci_Row l (a + 7) (S + 436) 300 (by omega) (by omega) F') (by omega) rfl (Nat.le_of_ble_eq_true rfl) (by show a + 9 ≤ a + 1 + 10; omega) (by show S + 736 ≤ S + 1038; omega) rfl ?_
  refine ke_putF (ty := (.object "TailPatches$Row")) rfl rfl rfl (by decide +kernel) (Or.inl ⟨_, rfl⟩) rfl (Nat.le_of_ble_eq_true rfl) ?_
  refine je_aload_n rfl rfl ?_
  refine ke_new (K := 2) (q := a + 9) (T := S + 738) rfl rfl rfl (by omega) (by omega) (by omega) (by show a + 10 ≤ a + 1 + 10; omega) (by show S + 738 ≤ S + 1038; omega) ?_
  refine je_dup rfl rfl ?_
  show jE _ _ 63 _ _ _ _ _
  refine je_sipush rfl rfl ?_
  refine ke_callI (q := a + 9) (T := S + 1038) (as := [.int (jI 300)]) rfl (by omega) rfl (by omega) rfl (fun F' => ci_Row l (a + 9) (S + 738) 300 (by omega) (by omega) F') (by omega) rfl (Nat.le_of_ble_eq_true rfl) (by show a + 11 ≤ a + 1 + 10; omega) (by show S + 1038 ≤ S + 1038; omega) rfl ?_
  refine ke_putF (ty := (.object "TailPatches$Row")) rfl rfl rfl (by decide +kernel) (Or.inl ⟨_, rfl⟩) rfl (Nat.le_of_ble_eq_true rfl) ?_
  show jE _ _ 72 _ _ _ _ _
  exact je_ret rfl
set_option maxRecDepth 20000 in
set_option maxHeartbeats 1000000 in
theorem ci_6 (l : Launch) (a S : Nat) (ha : a < 900000) (F : Nat → va_E) : jCl l 64 [.ref a] (mkG F a (.inr (6, jdv 6)) (a + 1) [] S) none (mkG F a (.inr (6, [.int 0, .int 0, .int 0, .int 0, .int 0, .ref (a + 1), .ref (a + 2), .ref (a + 3), .ref (a + 4), .ref (a + 5), .ref (a + 6), .ref (a + 9), .ref (a + 11), .ref (a + 13), .ref (a + 15), .int 0, .int 0, .int 0])) (a + 1) [.inl (13, 100, .inl (fun _ => 0)), .inl (13, 100, .inl (fun _ => 0)), .inl (13, 100, .inl (fun _ => 0)), .inl (13, 100, .inl (fun _ => 0)), .inl (13, 2, .inl (fun _ => 0)), .inr (3, [.ref ((a + 6) + 1), .ref ((a + 6) + 2), .int (jI 0)]), .inl (13, 64, .inl (fun _ => 0)), .inl (13, 64, .inl (fun _ => 0)), .inr (8, [.ref (a + 10), .int (jI 0)]), .inl (13, 64, .inl (fun _ => 0)), .inr (8, [.ref (a + 12), .int (jI 0)]), .inl (13, 300, .inl (fun _ => 0)), .inr (8, [.ref (a + 14), .int (jI 0)]), .inl (13, 64, .inl (fun _ => 0)), .inr (8, [.ref (a + 16), .int (jI 0)]), .inl (13, 64, .inl (fun _ => 0))] (S + 1033)) := by
  refine jCl.of (by omega) (Nat.le_of_ble_eq_true rfl) (by show a + 1 + 0 ≤ a + 1 + 16; omega) (by show S ≤ S + 1033; omega) rfl ?_
  refine je_aload_n rfl rfl ?_
  refine je_obj rfl (Nat.le_of_ble_eq_true rfl) rfl ?_
  refine je_aload_n rfl rfl ?_
  refine je_bipush rfl rfl ?_
  show jE _ _ 7 _ _ _ _ _
  refine ke_newai (N := 100) (q := a + 1) (T := S + 100) rfl (by decide) (by decide) rfl rfl (by omega) (by omega) (by omega) (by show a + 2 ≤ a + 1 + 16; omega) (by show S + 100 ≤ S + 1033; omega) ?_
  refine ke_putF (ty := (.array .int)) rfl rfl rfl (by decide +kernel) (Or.inr ⟨_, rfl⟩) rfl (Nat.le_of_ble_eq_true rfl) ?_
  refine je_aload_n rfl rfl ?_
  refine je_bipush rfl rfl ?_
  refine ke_newai (N := 100) (q := a + 2) (T := S + 200) rfl (by decide) (by decide) rfl rfl (by omega) (by omega) (by omega) (by show a + 3 ≤ a + 1 + 16; omega) (by show S + 200 ≤ S + 1033; omega) ?_
  show jE _ _ 17 _ _ _ _ _
  refine ke_putF (ty := (.array .int)) rfl rfl rfl (by decide +kernel) (Or.inr ⟨_, rfl⟩) rfl (Nat.le_of_ble_eq_true rfl) ?_
  refine je_aload_n rfl rfl ?_
  refine je_bipush rfl rfl ?_
  refine ke_newai (N := 100) (q := a + 3) (T := S + 300) rfl (by decide) (by decide) rfl rfl (by omega) (by omega) (by omega) (by show a + 4 ≤ a + 1 + 16; omega) (by show S + 300 ≤ S + 1033; omega) ?_
  refine ke_putF (ty := (.array .int)) rfl rfl rfl (by decide +kernel) (Or.inr ⟨_, rfl⟩) rfl (Nat.le_of_ble_eq_true rfl) ?_
  show jE _ _ 28 _ _ _ _ _
  refine je_aload_n rfl rfl ?_
  refine je_bipush rfl rfl ?_
  refine ke_newai (N := 100) (q := a + 4) (T := S + 400) rfl (by decide) (by decide) rfl rfl (by omega) (by omega) (by omega) (by show a + 5 ≤ a + 1 + 16; omega) (by show S + 400 ≤ S + 1033; omega) ?_
  refine ke_putF (ty := (.array .int)) rfl rfl rfl (by decide +kernel) (Or.inr ⟨_, rfl⟩) rfl (Nat.le_of_ble_eq_true rfl) ?_
  refine je_aload_n rfl rfl ?_
  show jE _ _ 37 _ _ _ _ _
  refine je_iconst rfl ?_
  refine ke_newai (N := 2) (q := a + 5) (T := S + 402) rfl (by decide) (by decide) rfl rfl (by omega) (by omega) (by omega) (by show a + 6 ≤ a + 1 + 16; omega) (by show S + 402 ≤ S + 1033; omega) ?_
  refine ke_putF (ty := (.array .int)) rfl rfl rfl (by decide +kernel) (Or.inr ⟨_, rfl⟩) rfl (Nat.le_of_ble_eq_true rfl) ?_
  refine je_aload_n rfl rfl ?_
  refine ke_new (K := 3) (q := a + 6) (T := S + 405) rfl rfl rfl (by omega) (by omega) (by omega) (by show a + 7 ≤ a + 1 + 16; omega) (by show S + 405 ≤ S + 1033; omega) ?_
  show jE _ _ 47 _ _ _ _ _
  refine je_dup rfl rfl ?_
  refine ke_callI (q := a + 6) (T := S + 533) (as := []) rfl (by omega) rfl (by omega) rfl (fun F' => ci_3 l (a + 6) (S + 405) (by omega) F') (by omega) rfl (Nat.le_of_ble_eq_true rfl) (by show a + 9 ≤ a + 1 + 16; omega) (by show S + 533 ≤ S + 1033; omega) rfl ?_
  refine ke_putF (ty := (.object "TailPatches$Origins")) rfl rfl rfl (by decide +kernel) (Or.inl ⟨_, rfl⟩) rfl (Nat.le_of_ble_eq_true rfl) ?_
  refine je_aload_n rfl rfl ?_
  refine ke_new (K := 2) (q := a + 9) (T := S + 535) rfl rfl rfl (by omega) (by omega) (by omega) (by show a + 10 ≤ a + 1 + 16; omega) (by show S + 535 ≤ S + 1033; omega) ?_
  show jE _ _ 58 _ _ _ _ _
  refine je_dup rfl rfl ?_
  refine je_bipush rfl rfl ?_
  refine ke_callI (q := a + 9) (T := S + 599) (as := [.int (jI 64)]) rfl (by omega) rfl (by omega) rfl (fun F' => ci_Row l (a + 9) (S + 535) 64 (by omega) (by omega) F') (by omega) rfl (Nat.le_of_ble_eq_true rfl) (by show a + 11 ≤ a + 1 + 16; omega) (by show S + 599 ≤ S + 1033; omega) rfl ?_
  refine ke_putF (ty := (.object "TailPatches$Row")) rfl rfl rfl (by decide +kernel) (Or.inl ⟨_, rfl⟩) rfl (Nat.le_of_ble_eq_true rfl) ?_
  refine je_aload_n rfl rfl ?_
  show jE _ _ 68 _ _ _ _ _
  refine ke_new (K := 2) (q := a + 11) (T := S + 601) rfl rfl rfl (by omega) (by omega) (by omega) (by show a + 12 ≤ a + 1 + 16; omega) (by show S + 601 ≤ S + 1033; omega) ?_
  refine je_dup rfl rfl ?_
  refine je_sipush rfl rfl ?_
  refine ke_callI (q := a + 11) (T := S + 901) (as := [.int (jI 300)]) rfl (by omega) rfl (by omega) rfl (fun F' => ci_Row l (a + 11) (S + 601) 300 (by omega) (by omega) F') (by omega) rfl (Nat.le_of_ble_eq_true rfl) (by show a + 13 ≤ a + 1 + 16; omega) (by show S + 901 ≤ S + 1033; omega) rfl ?_
  refine ke_putF (ty := (.object "TailPatches$Row")) rfl rfl rfl (by decide +kernel) (Or.inl ⟨_, rfl⟩) rfl (Nat.le_of_ble_eq_true rfl) ?_
  show jE _ _ 81 _ _ _ _ _
  refine je_aload_n rfl rfl ?_
  refine ke_new (K := 2) (q := a + 13) (T := S + 903) rfl rfl rfl (by omega) (by omega) (by omega) (by show a + 14 ≤ a + 1 + 16; omega) (by show S + 903 ≤ S + 1033; omega) ?_
  refine je_dup rfl rfl ?_
  refine je_bipush rfl rfl ?_
  refine ke_callI (q := a + 13) (T := S + 967) (as := [.int (jI 64)]) rfl (by omega) rfl (by omega) rfl (fun F' => ci_Row l (a + 13) (S + 903) 64 (by omega) (by omega) F') (by omega) rfl (Nat.le_of_ble_eq_true rfl) (by show a + 15 ≤ a + 1 + 16; omega) (by show S + 967 ≤ S + 1033; omega) rfl ?_
  show jE _ _ 91 _ _ _ _ _
  refine ke_putF (ty := (.object "TailPatches$Row")) rfl rfl rfl (by decide +kernel) (Or.inl ⟨_, rfl⟩) rfl (Nat.le_of_ble_eq_true rfl) ?_
  refine je_aload_n rfl rfl ?_
  refine ke_new (K := 2) (q := a + 15) (T := S + 969) rfl rfl rfl (by omega) (by omega) (by omega) (by show a + 16 ≤ a + 1 + 16; omega) (by show S + 969 ≤ S + 1033; omega) ?_
  refine je_dup rfl rfl ?_
  refine je_bipush rfl rfl ?_
  show jE _ _ 101 _ _ _ _ _
  refine ke_callI (q := a + 15) (T := S + 1033) (as := [.int (jI 64)]) rfl (by omega) rfl (by omega) rfl (fun F' => ci_Row l (a + 15) (S + 969) 64 (by omega) (by omega) F') (by omega) rfl (Nat.le_of_ble_eq_true rfl) (by show a + 17 ≤ a + 1 + 16; omega) (by show S + 1033 ≤ S + 1033; omega) rfl ?_
  refine ke_putF (ty := (.object "TailPatches$Row")) rfl rfl rfl (by decide +kernel) (Or.inl ⟨_, rfl⟩) rfl (Nat.le_of_ble_eq_true rfl) ?_
  show jE _ _ 107 _ _ _ _ _
  exact je_ret rfl
set_option maxRecDepth 20000 in
set_option maxHeartbeats 1000000 in
theorem ci_1 (l : Launch) (a S : Nat) (ha : a < 900000) (F : Nat → va_E) : jCl l 10 [.ref a] (mkG F a (.inr (1, jdv 1)) (a + 1) [] S) none (mkG F a (.inr (1, [.ref (a + 1), .int (jI 0), .int (jI 0), .int (jI 0), .int (jI 0), .int (jI 0), .ref (a + 2), .ref (a + 3), .ref (a + 4), .int (jI 0), .ref (a + 5), .int (jI 0)])) (a + 1) [.inl (13, 100, .inl (fun _ => 0)), .inl (15, 100, .inl (fun _ => 0)), .inl (15, 100, .inl (fun _ => 0)), .inl (13, 100, .inl (fun _ => 0)), .inl (13, 8, .inl (fun _ => 0))] (S + 408)) := by
  refine jCl.of (by omega) (Nat.le_of_ble_eq_true rfl) (by show a + 1 + 0 ≤ a + 1 + 5; omega) (by show S ≤ S + 408; omega) rfl ?_
  refine je_aload_n rfl rfl ?_
  refine je_obj rfl (Nat.le_of_ble_eq_true rfl) rfl ?_
  refine je_aload_n rfl rfl ?_
  refine je_bipush rfl rfl ?_
  show jE _ _ 7 _ _ _ _ _
  refine ke_newai (N := 100) (q := a + 1) (T := S + 100) rfl (by decide) (by decide) rfl rfl (by omega) (by omega) (by omega) (by show a + 2 ≤ a + 1 + 5; omega) (by show S + 100 ≤ S + 408; omega) ?_
  refine ke_putF (ty := (.array .int)) rfl rfl rfl (by decide +kernel) (Or.inr ⟨_, rfl⟩) rfl (Nat.le_of_ble_eq_true rfl) ?_
  refine je_aload_n rfl rfl ?_
  refine je_bipush rfl rfl ?_
  refine ke_newaz (N := 100) (q := a + 2) (T := S + 200) rfl (by decide) (by decide) rfl rfl (by omega) (by omega) (by omega) (by show a + 3 ≤ a + 1 + 5; omega) (by show S + 200 ≤ S + 408; omega) ?_
  show jE _ _ 17 _ _ _ _ _
  refine ke_putF (ty := (.array .boolean)) rfl rfl rfl (by decide +kernel) (Or.inr ⟨_, rfl⟩) rfl (Nat.le_of_ble_eq_true rfl) ?_
  refine je_aload_n rfl rfl ?_
  refine je_bipush rfl rfl ?_
  refine ke_newaz (N := 100) (q := a + 3) (T := S + 300) rfl (by decide) (by decide) rfl rfl (by omega) (by omega) (by omega) (by show a + 4 ≤ a + 1 + 5; omega) (by show S + 300 ≤ S + 408; omega) ?_
  refine ke_putF (ty := (.array .boolean)) rfl rfl rfl (by decide +kernel) (Or.inr ⟨_, rfl⟩) rfl (Nat.le_of_ble_eq_true rfl) ?_
  show jE _ _ 28 _ _ _ _ _
  refine je_aload_n rfl rfl ?_
  refine je_bipush rfl rfl ?_
  refine ke_newai (N := 100) (q := a + 4) (T := S + 400) rfl (by decide) (by decide) rfl rfl (by omega) (by omega) (by omega) (by show a + 5 ≤ a + 1 + 5; omega) (by show S + 400 ≤ S + 408; omega) ?_
  refine ke_putF (ty := (.array .int)) rfl rfl rfl (by decide +kernel) (Or.inr ⟨_, rfl⟩) rfl (Nat.le_of_ble_eq_true rfl) ?_
  refine je_aload_n rfl rfl ?_
  show jE _ _ 37 _ _ _ _ _
  refine je_bipush rfl rfl ?_
  refine ke_newai (N := 8) (q := a + 5) (T := S + 408) rfl (by decide) (by decide) rfl rfl (by omega) (by omega) (by omega) (by show a + 6 ≤ a + 1 + 5; omega) (by show S + 408 ≤ S + 408; omega) ?_
  refine ke_putF (ty := (.array .int)) rfl rfl rfl (by decide +kernel) (Or.inr ⟨_, rfl⟩) rfl (Nat.le_of_ble_eq_true rfl) ?_
  refine je_aload_n rfl rfl ?_
  refine je_iconst rfl ?_
  show jE _ _ 46 _ _ _ _ _
  refine ke_puti rfl rfl rfl (Nat.le_of_ble_eq_true rfl) ?_
  refine je_aload_n rfl rfl ?_
  refine je_iconst rfl ?_
  refine ke_puti rfl rfl rfl (Nat.le_of_ble_eq_true rfl) ?_
  refine je_aload_n rfl rfl ?_
  show jE _ _ 55 _ _ _ _ _
  refine je_iconst rfl ?_
  refine ke_puti rfl rfl rfl (Nat.le_of_ble_eq_true rfl) ?_
  refine je_aload_n rfl rfl ?_
  refine je_iconst rfl ?_
  refine ke_puti rfl rfl rfl (Nat.le_of_ble_eq_true rfl) ?_
  show jE _ _ 64 _ _ _ _ _
  refine je_aload_n rfl rfl ?_
  refine je_iconst rfl ?_
  refine ke_puti rfl rfl rfl (Nat.le_of_ble_eq_true rfl) ?_
  refine je_aload_n rfl rfl ?_
  refine je_iconst rfl ?_
  show jE _ _ 71 _ _ _ _ _
  refine ke_puti rfl rfl rfl (Nat.le_of_ble_eq_true rfl) ?_
  refine je_aload_n rfl rfl ?_
  refine je_iconst rfl ?_
  refine ke_puti rfl rfl rfl (Nat.le_of_ble_eq_true rfl) ?_
  show jE _ _ 79 _ _ _ _ _
  exact je_ret rfl
set_option maxRecDepth 20000 in
set_option maxHeartbeats 1000000 in
theorem ci_7 (l : Launch) (a S : Nat) (ha : a < 900000) (F : Nat → va_E) : jCl l 77 [.ref a] (mkG F a (.inr (7, jdv 7)) (a + 1) [] S) none (mkG F a (.inr (7, [.int (jI (-1)), .int (jI (-1)), .ref (a + 1), .int 0, .int 0, .int 0, .int 0, .ref (a + 3), .ref (a + 4), .ref (a + 5), .ref (a + 6), .ref (a + 7), .ref (a + 8), .ref (a + 10), .ref (a + 11), .int 0])) (a + 1) [.inr (8, [.ref (a + 2), .int (jI 0)]), .inl (13, 400, .inl (fun _ => 0)), .inl (13, 24, .inl (fun _ => 0)), .inl (13, 24, .inl (fun _ => 0)), .inl (13, 24, .inl (fun _ => 0)), .inl (13, 24, .inl (fun _ => 0)), .inl (13, 24, .inl (fun _ => 0)), .inr (8, [.ref (a + 9), .int (jI 0)]), .inl (13, 400, .inl (fun _ => 0)), .inl (13, 4, .inl (fun _ => 0)), .inl (13, 4, .inl (fun _ => 0))] (S + 932)) := by
  refine jCl.of (by omega) (Nat.le_of_ble_eq_true rfl) (by show a + 1 + 0 ≤ a + 1 + 11; omega) (by show S ≤ S + 932; omega) rfl ?_
  refine je_aload_n rfl rfl ?_
  refine je_obj rfl (Nat.le_of_ble_eq_true rfl) rfl ?_
  refine je_aload_n rfl rfl ?_
  refine je_iconst rfl ?_
  show jE _ _ 6 _ _ _ _ _
  refine ke_puti rfl rfl rfl (Nat.le_of_ble_eq_true rfl) ?_
  refine je_aload_n rfl rfl ?_
  refine je_iconst rfl ?_
  refine ke_puti rfl rfl rfl (Nat.le_of_ble_eq_true rfl) ?_
  refine je_aload_n rfl rfl ?_
  show jE _ _ 15 _ _ _ _ _
  refine ke_new (K := 2) (q := a + 1) (T := S + 2) rfl rfl rfl (by omega) (by omega) (by omega) (by show a + 2 ≤ a + 1 + 11; omega) (by show S + 2 ≤ S + 932; omega) ?_
  refine je_dup rfl rfl ?_
  refine je_sipush rfl rfl ?_
  refine ke_callI (q := a + 1) (T := S + 402) (as := [.int (jI 400)]) rfl (by omega) rfl (by omega) rfl (fun F' => ci_Row l (a + 1) (S + 2) 400 (by omega) (by omega) F') (by omega) rfl (Nat.le_of_ble_eq_true rfl) (by show a + 3 ≤ a + 1 + 11; omega) (by show S + 402 ≤ S + 932; omega) rfl ?_
  refine ke_putF (ty := (.object "TailPatches$Row")) rfl rfl rfl (by decide +kernel) (Or.inl ⟨_, rfl⟩) rfl (Nat.le_of_ble_eq_true rfl) ?_
  show jE _ _ 28 _ _ _ _ _
  refine je_aload_n rfl rfl ?_
  refine je_bipush rfl rfl ?_
  refine ke_newai (N := 24) (q := a + 3) (T := S + 426) rfl (by decide) (by decide) rfl rfl (by omega) (by omega) (by omega) (by show a + 4 ≤ a + 1 + 11; omega) (by show S + 426 ≤ S + 932; omega) ?_
  refine ke_putF (ty := (.array .int)) rfl rfl rfl (by decide +kernel) (Or.inr ⟨_, rfl⟩) rfl (Nat.le_of_ble_eq_true rfl) ?_
  refine je_aload_n rfl rfl ?_
  show jE _ _ 37 _ _ _ _ _
  refine je_bipush rfl rfl ?_
  refine ke_newai (N := 24) (q := a + 4) (T := S + 450) rfl (by decide) (by decide) rfl rfl (by omega) (by omega) (by omega) (by show a + 5 ≤ a + 1 + 11; omega) (by show S + 450 ≤ S + 932; omega) ?_
  refine ke_putF (ty := (.array .int)) rfl rfl rfl (by decide +kernel) (Or.inr ⟨_, rfl⟩) rfl (Nat.le_of_ble_eq_true rfl) ?_
  refine je_aload_n rfl rfl ?_
  refine je_bipush rfl rfl ?_
  show jE _ _ 47 _ _ _ _ _
  refine ke_newai (N := 24) (q := a + 5) (T := S + 474) rfl (by decide) (by decide) rfl rfl (by omega) (by omega) (by omega) (by show a + 6 ≤ a + 1 + 11; omega) (by show S + 474 ≤ S + 932; omega) ?_
  refine ke_putF (ty := (.array .int)) rfl rfl rfl (by decide +kernel) (Or.inr ⟨_, rfl⟩) rfl (Nat.le_of_ble_eq_true rfl) ?_
  refine je_aload_n rfl rfl ?_
  refine je_bipush rfl rfl ?_
  refine ke_newai (N := 24) (q := a + 6) (T := S + 498) rfl (by decide) (by decide) rfl rfl (by omega) (by omega) (by omega) (by show a + 7 ≤ a + 1 + 11; omega) (by show S + 498 ≤ S + 932; omega) ?_
  show jE _ _ 57 _ _ _ _ _
  refine ke_putF (ty := (.array .int)) rfl rfl rfl (by decide +kernel) (Or.inr ⟨_, rfl⟩) rfl (Nat.le_of_ble_eq_true rfl) ?_
  refine je_aload_n rfl rfl ?_
  refine je_bipush rfl rfl ?_
  refine ke_newai (N := 24) (q := a + 7) (T := S + 522) rfl (by decide) (by decide) rfl rfl (by omega) (by omega) (by omega) (by show a + 8 ≤ a + 1 + 11; omega) (by show S + 522 ≤ S + 932; omega) ?_
  refine ke_putF (ty := (.array .int)) rfl rfl rfl (by decide +kernel) (Or.inr ⟨_, rfl⟩) rfl (Nat.le_of_ble_eq_true rfl) ?_
  show jE _ _ 68 _ _ _ _ _
  refine je_aload_n rfl rfl ?_
  refine ke_new (K := 2) (q := a + 8) (T := S + 524) rfl rfl rfl (by omega) (by omega) (by omega) (by show a + 9 ≤ a + 1 + 11; omega) (by show S + 524 ≤ S + 932; omega) ?_
  refine je_dup rfl rfl ?_
  refine je_sipush rfl rfl ?_
  refine ke_callI (q := a + 8) (T := S + 924) (as := [.int (jI 400)]) rfl (by omega) rfl (by omega) rfl (fun F' => ci_Row l (a + 8) (S + 524) 400 (by omega) (by omega) F') (by omega) rfl (Nat.le_of_ble_eq_true rfl) (by show a + 10 ≤ a + 1 + 11; omega) (by show S + 924 ≤ S + 932; omega) rfl ?_
  show jE _ _ 79 _ _ _ _ _
  refine ke_putF (ty := (.object "TailPatches$Row")) rfl rfl rfl (by decide +kernel) (Or.inl ⟨_, rfl⟩) rfl (Nat.le_of_ble_eq_true rfl) ?_
  refine je_aload_n rfl rfl ?_
  refine je_iconst rfl ?_
  refine ke_newai (N := 4) (q := a + 10) (T := S + 928) rfl (by decide) (by decide) rfl rfl (by omega) (by omega) (by omega) (by show a + 11 ≤ a + 1 + 11; omega) (by show S + 928 ≤ S + 932; omega) ?_
  refine ke_putF (ty := (.array .int)) rfl rfl rfl (by decide +kernel) (Or.inr ⟨_, rfl⟩) rfl (Nat.le_of_ble_eq_true rfl) ?_
  show jE _ _ 89 _ _ _ _ _
  refine je_aload_n rfl rfl ?_
  refine je_iconst rfl ?_
  refine ke_newai (N := 4) (q := a + 11) (T := S + 932) rfl (by decide) (by decide) rfl rfl (by omega) (by omega) (by omega) (by show a + 12 ≤ a + 1 + 11; omega) (by show S + 932 ≤ S + 932; omega) ?_
  refine ke_putF (ty := (.array .int)) rfl rfl rfl (by decide +kernel) (Or.inr ⟨_, rfl⟩) rfl (Nat.le_of_ble_eq_true rfl) ?_
  show jE _ _ 96 _ _ _ _ _
  exact je_ret rfl
set_option maxRecDepth 20000 in
set_option maxHeartbeats 1000000 in
theorem ci_2 (l : Launch) (a S : Nat) (ha : a < 900000) (F : Nat → va_E) : jCl l 25 [.ref a] (mkG F a (.inr (2, jdv 2)) (a + 1) [] S) none (mkG F a (.inr (2, [.ref (a + 1)])) (a + 1) [.inr (8, [.ref (a + 2), .int (jI 0)]), .inl (13, 1280, .inl (fun _ => 0))] (S + 1282)) := by
  refine jCl.of (by omega) (Nat.le_of_ble_eq_true rfl) (by show a + 1 + 0 ≤ a + 1 + 2; omega) (by show S ≤ S + 1282; omega) rfl ?_
  refine je_aload_n rfl rfl ?_
  refine je_obj rfl (Nat.le_of_ble_eq_true rfl) rfl ?_
  refine je_aload_n rfl rfl ?_
  refine ke_new (K := 2) (q := a + 1) (T := S + 2) rfl rfl rfl (by omega) (by omega) (by omega) (by show a + 2 ≤ a + 1 + 2; omega) (by show S + 2 ≤ S + 1282; omega) ?_
  show jE _ _ 8 _ _ _ _ _
  refine je_dup rfl rfl ?_
  refine je_sipush rfl rfl ?_
  refine ke_callI (q := a + 1) (T := S + 1282) (as := [.int (jI 1280)]) rfl (by omega) rfl (by omega) rfl (fun F' => ci_Row l (a + 1) (S + 2) 1280 (by omega) (by omega) F') (by omega) rfl (Nat.le_of_ble_eq_true rfl) (by show a + 3 ≤ a + 1 + 2; omega) (by show S + 1282 ≤ S + 1282; omega) rfl ?_
  refine ke_putF (ty := (.object "TailPatches$Row")) rfl rfl rfl (by decide +kernel) (Or.inl ⟨_, rfl⟩) rfl (Nat.le_of_ble_eq_true rfl) ?_
  show jE _ _ 18 _ _ _ _ _
  exact je_ret rfl
set_option maxRecDepth 20000 in
set_option maxHeartbeats 1000000 in
theorem ci_5 (l : Launch) (a S : Nat) (ha : a < 900000) (F : Nat → va_E) : jCl l 57 [.ref a] (mkG F a (.inr (5, jdv 5)) (a + 1) [] S) none (mkG F a (.inr (5, [.int (jI 0), .int (jI (-1)), .int (jI (-1)), .ref (a + 1), .ref (a + 2), .ref (a + 4)])) (a + 1) [.inl (13, 100, .inl (fun _ => 0)), .inr (8, [.ref (a + 3), .int (jI 0)]), .inl (13, 300, .inl (fun _ => 0)), .inr (8, [.ref (a + 5), .int (jI 0)]), .inl (13, 300, .inl (fun _ => 0))] (S + 704)) := by
  refine jCl.of (by omega) (Nat.le_of_ble_eq_true rfl) (by show a + 1 + 0 ≤ a + 1 + 5; omega) (by show S ≤ S + 704; omega) rfl ?_
  refine je_aload_n rfl rfl ?_
  refine je_obj rfl (Nat.le_of_ble_eq_true rfl) rfl ?_
  refine je_aload_n rfl rfl ?_
  refine je_bipush rfl rfl ?_
  show jE _ _ 7 _ _ _ _ _
  refine ke_newai (N := 100) (q := a + 1) (T := S + 100) rfl (by decide) (by decide) rfl rfl (by omega) (by omega) (by omega) (by show a + 2 ≤ a + 1 + 5; omega) (by show S + 100 ≤ S + 704; omega) ?_
  refine ke_putF (ty := (.array .int)) rfl rfl rfl (by decide +kernel) (Or.inr ⟨_, rfl⟩) rfl (Nat.le_of_ble_eq_true rfl) ?_
  refine je_aload_n rfl rfl ?_
  refine ke_new (K := 2) (q := a + 2) (T := S + 102) rfl rfl rfl (by omega) (by omega) (by omega) (by show a + 3 ≤ a + 1 + 5; omega) (by show S + 102 ≤ S + 704; omega) ?_
  refine je_dup rfl rfl ?_
  show jE _ _ 17 _ _ _ _ _
  refine je_sipush rfl rfl ?_
  refine ke_callI (q := a + 2) (T := S + 402) (as := [.int (jI 300)]) rfl (by omega) rfl (by omega) rfl (fun F' => ci_Row l (a + 2) (S + 102) 300 (by omega) (by omega) F') (by omega) rfl (Nat.le_of_ble_eq_true rfl) (by show a + 4 ≤ a + 1 + 5; omega) (by show S + 402 ≤ S + 704; omega) rfl ?_
  refine ke_putF (ty := (.object "TailPatches$Row")) rfl rfl rfl (by decide +kernel) (Or.inl ⟨_, rfl⟩) rfl (Nat.le_of_ble_eq_true rfl) ?_
  refine je_aload_n rfl rfl ?_
  refine ke_new (K := 2) (q := a + 4) (T := S + 404) rfl rfl rfl (by omega) (by omega) (by omega) (by show a + 5 ≤ a + 1 + 5; omega) (by show S + 404 ≤ S + 704; omega) ?_
  show jE _ _ 30 _ _ _ _ _
  refine je_dup rfl rfl ?_
  refine je_sipush rfl rfl ?_
  refine ke_callI (q := a + 4) (T := S + 704) (as := [.int (jI 300)]) rfl (by omega) rfl (by omega) rfl (fun F' => ci_Row l (a + 4) (S + 404) 300 (by omega) (by omega) F') (by omega) rfl (Nat.le_of_ble_eq_true rfl) (by show a + 6 ≤ a + 1 + 5; omega) (by show S + 704 ≤ S + 704; omega) rfl ?_
  refine ke_putF (ty := (.object "TailPatches$Row")) rfl rfl rfl (by decide +kernel) (Or.inl ⟨_, rfl⟩) rfl (Nat.le_of_ble_eq_true rfl) ?_
  refine je_aload_n rfl rfl ?_
  show jE _ _ 41 _ _ _ _ _
  refine je_iconst rfl ?_
  refine ke_puti rfl rfl rfl (Nat.le_of_ble_eq_true rfl) ?_
  refine je_aload_n rfl rfl ?_
  refine je_iconst rfl ?_
  refine ke_puti rfl rfl rfl (Nat.le_of_ble_eq_true rfl) ?_
  show jE _ _ 50 _ _ _ _ _
  refine je_aload_n rfl rfl ?_
  refine je_iconst rfl ?_
  refine ke_puti rfl rfl rfl (Nat.le_of_ble_eq_true rfl) ?_
  show jE _ _ 55 _ _ _ _ _
  exact je_ret rfl
