set_option maxRecDepth 20000 in
set_option maxHeartbeats 4000000 in
theorem ci_11 (l : Launch) (L : Int) (xs : Nat → Int) : jCl l 132 [.ref 0] (mkL (h0 L xs) [(0, .inr (11, jdv 11))] 1 20) none (mkL (h0 L xs) [] 388 30245) := by
  refine jCl.of (by omega) (Nat.le_of_ble_eq_true rfl) (Nat.le_of_ble_eq_true rfl) (Nat.le_of_ble_eq_true rfl) rfl ?_
  refine je_aload_n rfl rfl ?_
  refine je_obj rfl (Nat.le_of_ble_eq_true rfl) rfl ?_
  refine je_aload_n rfl rfl ?_
  refine xl_new (K := 10) (T := 30) rfl rfl rfl rfl (Nat.le_of_ble_eq_true rfl) (Nat.le_of_ble_eq_true rfl) (Nat.le_of_ble_eq_true rfl) ?_
  show jE _ _ 8 _ _ _ _ _
  refine je_dup rfl rfl ?_
  refine xl_callI (q := 1) (M := 19) (T := 1393) (as := []) rfl (by omega) rfl rfl (fun F' => ci_9 l 1 30 (by omega) F') rfl rfl rfl (Nat.le_of_ble_eq_true rfl) rfl (Nat.le_of_ble_eq_true rfl) (Nat.le_of_ble_eq_true rfl) (Nat.le_of_ble_eq_true rfl) rfl ?_
  refine xl_putF (ex1 := [(0, _)]) (ty := (.object "TailPatches$State")) rfl rfl rfl (by decide +kernel) (Or.inl ⟨_, rfl⟩) rfl (Nat.le_of_ble_eq_true rfl) rfl ?_
  refine je_aload_n rfl rfl ?_
  refine je_bipush rfl rfl ?_
  show jE _ _ 18 _ _ _ _ _
  refine xl_newq (M := 16) (T := 1409) (sr 19) rfl (by decide) (by decide) rfl rfl rfl (Nat.le_of_ble_eq_true rfl) (Nat.le_of_ble_eq_true rfl) (Nat.le_of_ble_eq_true rfl) ?_
  refine xl_putF (ex1 := [(19, _), (0, _)]) (ty := (.array (.object "TailPatches$State"))) rfl rfl rfl (by decide +kernel) (Or.inr ⟨_, rfl⟩) rfl (Nat.le_of_ble_eq_true rfl) rfl ?_
  refine je_iconst rfl ?_
  refine je_istore_n rfl (Nat.le_of_ble_eq_true rfl) rfl ?_
  refine je_iload_n rfl rfl ?_
  show jE _ _ 27 _ _ _ _ _
  refine je_bipush rfl rfl ?_
  refine je_icmp_ge (tgt := 51) rfl rfl ⟨by omega, by omega⟩ ⟨by omega, by omega⟩ (fun c => absurd c (by decide)) (fun _ => ?_)
  show jE _ _ 32 _ _ _ _ _
  refine je_aload_n rfl rfl ?_
  refine xl_getf rfl rfl rfl ?_
  refine je_iload_n rfl rfl ?_
  show jE _ _ 37 _ _ _ _ _
  refine xl_new (K := 10) (T := 1419) rfl rfl rfl rfl (Nat.le_of_ble_eq_true rfl) (Nat.le_of_ble_eq_true rfl) (Nat.le_of_ble_eq_true rfl) ?_
  refine je_dup rfl rfl ?_
  refine xl_callI (q := 20) (M := 38) (T := 2782) (as := []) rfl (by omega) rfl rfl (fun F' => ci_9 l 20 1419 (by omega) F') rfl rfl rfl (Nat.le_of_ble_eq_true rfl) rfl (Nat.le_of_ble_eq_true rfl) (Nat.le_of_ble_eq_true rfl) (Nat.le_of_ble_eq_true rfl) rfl ?_
  refine xl_aast (M := 16) (zn := 0) (ex1 := [(19, _), (0, _)]) rfl (Or.inr ⟨rfl, rfl⟩) rfl ((mkL_b rfl (Or.inl (by omega))).trans (show jn (h0 L xs) 20 = .inr (9, _) from rfl)) (by decide) (by decide) (by decide) rfl rfl ?_
  refine je_iinc rfl rfl rfl ?_
  show jE _ _ 48 _ _ _ _ _
  refine je_goto (tgt := 26) rfl rfl ?_
  refine je_iload_n rfl rfl ?_
  refine je_bipush rfl rfl ?_
  refine je_icmp_ge (tgt := 51) rfl rfl ⟨by omega, by omega⟩ ⟨by omega, by omega⟩ (fun c => absurd c (by decide)) (fun _ => ?_)
  show jE _ _ 32 _ _ _ _ _
  refine je_aload_n rfl rfl ?_
  show jE _ _ 33 _ _ _ _ _
  refine xl_getf rfl rfl rfl ?_
  refine je_iload_n rfl rfl ?_
  refine xl_new (K := 10) (T := 2792) rfl rfl rfl rfl (Nat.le_of_ble_eq_true rfl) (Nat.le_of_ble_eq_true rfl) (Nat.le_of_ble_eq_true rfl) ?_
  refine je_dup rfl rfl ?_
  refine xl_callI (q := 38) (M := 56) (T := 4155) (as := []) rfl (by omega) rfl rfl (fun F' => ci_9 l 38 2792 (by omega) F') rfl rfl rfl (Nat.le_of_ble_eq_true rfl) rfl (Nat.le_of_ble_eq_true rfl) (Nat.le_of_ble_eq_true rfl) (Nat.le_of_ble_eq_true rfl) rfl ?_
  show jE _ _ 44 _ _ _ _ _
  refine xl_aast (M := 16) (zn := 1) (ex1 := [(19, _), (0, _)]) rfl (Or.inr ⟨rfl, rfl⟩) rfl ((mkL_b rfl (Or.inl (by omega))).trans (show jn (h0 L xs) 38 = .inr (9, _) from rfl)) (by decide) (by decide) (by decide) rfl rfl ?_
  refine je_iinc rfl rfl rfl ?_
  refine je_goto (tgt := 26) rfl rfl ?_
  refine je_iload_n rfl rfl ?_
  refine je_bipush rfl rfl ?_
  show jE _ _ 29 _ _ _ _ _
  refine je_icmp_ge (tgt := 51) rfl rfl ⟨by omega, by omega⟩ ⟨by omega, by omega⟩ (fun c => absurd c (by decide)) (fun _ => ?_)
  show jE _ _ 32 _ _ _ _ _
  refine je_aload_n rfl rfl ?_
  refine xl_getf rfl rfl rfl ?_
  refine je_iload_n rfl rfl ?_
  refine xl_new (K := 10) (T := 4165) rfl rfl rfl rfl (Nat.le_of_ble_eq_true rfl) (Nat.le_of_ble_eq_true rfl) (Nat.le_of_ble_eq_true rfl) ?_
  show jE _ _ 40 _ _ _ _ _
  refine je_dup rfl rfl ?_
  refine xl_callI (q := 56) (M := 74) (T := 5528) (as := []) rfl (by omega) rfl rfl (fun F' => ci_9 l 56 4165 (by omega) F') rfl rfl rfl (Nat.le_of_ble_eq_true rfl) rfl (Nat.le_of_ble_eq_true rfl) (Nat.le_of_ble_eq_true rfl) (Nat.le_of_ble_eq_true rfl) rfl ?_
  refine xl_aast (M := 16) (zn := 2) (ex1 := [(19, _), (0, _)]) rfl (Or.inr ⟨rfl, rfl⟩) rfl ((mkL_b rfl (Or.inl (by omega))).trans (show jn (h0 L xs) 56 = .inr (9, _) from rfl)) (by decide) (by decide) (by decide) rfl rfl ?_
  refine je_iinc rfl rfl rfl ?_
  refine je_goto (tgt := 26) rfl rfl ?_
  show jE _ _ 26 _ _ _ _ _
  refine je_iload_n rfl rfl ?_
  refine je_bipush rfl rfl ?_
  refine je_icmp_ge (tgt := 51) rfl rfl ⟨by omega, by omega⟩ ⟨by omega, by omega⟩ (fun c => absurd c (by decide)) (fun _ => ?_)
  show jE _ _ 32 _ _ _ _ _
  refine je_aload_n rfl rfl ?_
  refine xl_getf rfl rfl rfl ?_
  show jE _ _ 36 _ _ _ _ _
  refine je_iload_n rfl rfl ?_
  refine xl_new (K := 10) (T := 5538) rfl rfl rfl rfl (Nat.le_of_ble_eq_true rfl) (Nat.le_of_ble_eq_true rfl) (Nat.le_of_ble_eq_true rfl) ?_
  refine je_dup rfl rfl ?_
  refine xl_callI (q := 74) (M := 92) (T := 6901) (as := []) rfl (by omega) rfl rfl (fun F' => ci_9 l 74 5538 (by omega) F') rfl rfl rfl (Nat.le_of_ble_eq_true rfl) rfl (Nat.le_of_ble_eq_true rfl) (Nat.le_of_ble_eq_true rfl) (Nat.le_of_ble_eq_true rfl) rfl ?_
  refine xl_aast (M := 16) (zn := 3) (ex1 := [(19, _), (0, _)]) rfl (Or.inr ⟨rfl, rfl⟩) rfl ((mkL_b rfl (Or.inl (by omega))).trans (show jn (h0 L xs) 74 = .inr (9, _) from rfl)) (by decide) (by decide) (by decide) rfl rfl ?_
  show jE _ _ 45 _ _ _ _ _
  refine je_iinc rfl rfl rfl ?_
  refine je_goto (tgt := 26) rfl rfl ?_
  refine je_iload_n rfl rfl ?_
  refine je_bipush rfl rfl ?_
  refine je_icmp_ge (tgt := 51) rfl rfl ⟨by omega, by omega⟩ ⟨by omega, by omega⟩ (fun c => absurd c (by decide)) (fun _ => ?_)
  show jE _ _ 32 _ _ _ _ _
  show jE _ _ 32 _ _ _ _ _
  refine je_aload_n rfl rfl ?_
  refine xl_getf rfl rfl rfl ?_
  refine je_iload_n rfl rfl ?_
  refine xl_new (K := 10) (T := 6911) rfl rfl rfl rfl (Nat.le_of_ble_eq_true rfl) (Nat.le_of_ble_eq_true rfl) (Nat.le_of_ble_eq_true rfl) ?_
  refine je_dup rfl rfl ?_
  show jE _ _ 41 _ _ _ _ _
  refine xl_callI (q := 92) (M := 110) (T := 8274) (as := []) rfl (by omega) rfl rfl (fun F' => ci_9 l 92 6911 (by omega) F') rfl rfl rfl (Nat.le_of_ble_eq_true rfl) rfl (Nat.le_of_ble_eq_true rfl) (Nat.le_of_ble_eq_true rfl) (Nat.le_of_ble_eq_true rfl) rfl ?_
  refine xl_aast (M := 16) (zn := 4) (ex1 := [(19, _), (0, _)]) rfl (Or.inr ⟨rfl, rfl⟩) rfl ((mkL_b rfl (Or.inl (by omega))).trans (show jn (h0 L xs) 92 = .inr (9, _) from rfl)) (by decide) (by decide) (by decide) rfl rfl ?_
  refine je_iinc rfl rfl rfl ?_
  refine je_goto (tgt := 26) rfl rfl ?_
  refine je_iload_n rfl rfl ?_
  show jE _ _ 27 _ _ _ _ _
  refine je_bipush rfl rfl ?_
  refine je_icmp_ge (tgt := 51) rfl rfl ⟨by omega, by omega⟩ ⟨by omega, by omega⟩ (fun c => absurd c (by decide)) (fun _ => ?_)
  show jE _ _ 32 _ _ _ _ _
  refine je_aload_n rfl rfl ?_
  refine xl_getf rfl rfl rfl ?_
  refine je_iload_n rfl rfl ?_
  show jE _ _ 37 _ _ _ _ _
  refine xl_new (K := 10) (T := 8284) rfl rfl rfl rfl (Nat.le_of_ble_eq_true rfl) (Nat.le_of_ble_eq_true rfl) (Nat.le_of_ble_eq_true rfl) ?_
  refine je_dup rfl rfl ?_
  refine xl_callI (q := 110) (M := 128) (T := 9647) (as := []) rfl (by omega) rfl rfl (fun F' => ci_9 l 110 8284 (by omega) F') rfl rfl rfl (Nat.le_of_ble_eq_true rfl) rfl (Nat.le_of_ble_eq_true rfl) (Nat.le_of_ble_eq_true rfl) (Nat.le_of_ble_eq_true rfl) rfl ?_
  refine xl_aast (M := 16) (zn := 5) (ex1 := [(19, _), (0, _)]) rfl (Or.inr ⟨rfl, rfl⟩) rfl ((mkL_b rfl (Or.inl (by omega))).trans (show jn (h0 L xs) 110 = .inr (9, _) from rfl)) (by decide) (by decide) (by decide) rfl rfl ?_
  refine je_iinc rfl rfl rfl ?_
  show jE _ _ 48 _ _ _ _ _
  refine je_goto (tgt := 26) rfl rfl ?_
  refine je_iload_n rfl rfl ?_
  refine je_bipush rfl rfl ?_
  refine je_icmp_ge (tgt := 51) rfl rfl ⟨by omega, by omega⟩ ⟨by omega, by omega⟩ (fun c => absurd c (by decide)) (fun _ => ?_)
  show jE _ _ 32 _ _ _ _ _
  refine je_aload_n rfl rfl ?_
  show jE _ _ 33 _ _ _ _ _
  refine xl_getf rfl rfl rfl ?_
  refine je_iload_n rfl rfl ?_
  refine xl_new (K := 10) (T := 9657) rfl rfl rfl rfl (Nat.le_of_ble_eq_true rfl) (Nat.le_of_ble_eq_true rfl) (Nat.le_of_ble_eq_true rfl) ?_
  refine je_dup rfl rfl ?_
  refine xl_callI (q := 128) (M := 146) (T := 11020) (as := []) rfl (by omega) rfl rfl (fun F' => ci_9 l 128 9657 (by omega) F') rfl rfl rfl (Nat.le_of_ble_eq_true rfl) rfl (Nat.le_of_ble_eq_true rfl) (Nat.le_of_ble_eq_true rfl) (Nat.le_of_ble_eq_true rfl) rfl ?_
  show jE _ _ 44 _ _ _ _ _
  refine xl_aast (M := 16) (zn := 6) (ex1 := [(19, _), (0, _)]) rfl (Or.inr ⟨rfl, rfl⟩) rfl ((mkL_b rfl (Or.inl (by omega))).trans (show jn (h0 L xs) 128 = .inr (9, _) from rfl)) (by decide) (by decide) (by decide) rfl rfl ?_
  refine je_iinc rfl rfl rfl ?_
  refine je_goto (tgt := 26) rfl rfl ?_
  refine je_iload_n rfl rfl ?_
  refine je_bipush rfl rfl ?_
  show jE _ _ 29 _ _ _ _ _
  refine je_icmp_ge (tgt := 51) rfl rfl ⟨by omega, by omega⟩ ⟨by omega, by omega⟩ (fun c => absurd c (by decide)) (fun _ => ?_)
  show jE _ _ 32 _ _ _ _ _
  refine je_aload_n rfl rfl ?_
  refine xl_getf rfl rfl rfl ?_
  refine je_iload_n rfl rfl ?_
  refine xl_new (K := 10) (T := 11030) rfl rfl rfl rfl (Nat.le_of_ble_eq_true rfl) (Nat.le_of_ble_eq_true rfl) (Nat.le_of_ble_eq_true rfl) ?_
  show jE _ _ 40 _ _ _ _ _
  refine je_dup rfl rfl ?_
  refine xl_callI (q := 146) (M := 164) (T := 12393) (as := []) rfl (by omega) rfl rfl (fun F' => ci_9 l 146 11030 (by omega) F') rfl rfl rfl (Nat.le_of_ble_eq_true rfl) rfl (Nat.le_of_ble_eq_true rfl) (Nat.le_of_ble_eq_true rfl) (Nat.le_of_ble_eq_true rfl) rfl ?_
  refine xl_aast (M := 16) (zn := 7) (ex1 := [(19, _), (0, _)]) rfl (Or.inr ⟨rfl, rfl⟩) rfl ((mkL_b rfl (Or.inl (by omega))).trans (show jn (h0 L xs) 146 = .inr (9, _) from rfl)) (by decide) (by decide) (by decide) rfl rfl ?_
  refine je_iinc rfl rfl rfl ?_
  refine je_goto (tgt := 26) rfl rfl ?_
  show jE _ _ 26 _ _ _ _ _
  refine je_iload_n rfl rfl ?_
  refine je_bipush rfl rfl ?_
  refine je_icmp_ge (tgt := 51) rfl rfl ⟨by omega, by omega⟩ ⟨by omega, by omega⟩ (fun c => absurd c (by decide)) (fun _ => ?_)
  show jE _ _ 32 _ _ _ _ _
  refine je_aload_n rfl rfl ?_
  refine xl_getf rfl rfl rfl ?_
  show jE _ _ 36 _ _ _ _ _
  refine je_iload_n rfl rfl ?_
  refine xl_new (K := 10) (T := 12403) rfl rfl rfl rfl (Nat.le_of_ble_eq_true rfl) (Nat.le_of_ble_eq_true rfl) (Nat.le_of_ble_eq_true rfl) ?_
  refine je_dup rfl rfl ?_
  refine xl_callI (q := 164) (M := 182) (T := 13766) (as := []) rfl (by omega) rfl rfl (fun F' => ci_9 l 164 12403 (by omega) F') rfl rfl rfl (Nat.le_of_ble_eq_true rfl) rfl (Nat.le_of_ble_eq_true rfl) (Nat.le_of_ble_eq_true rfl) (Nat.le_of_ble_eq_true rfl) rfl ?_
  refine xl_aast (M := 16) (zn := 8) (ex1 := [(19, _), (0, _)]) rfl (Or.inr ⟨rfl, rfl⟩) rfl ((mkL_b rfl (Or.inl (by omega))).trans (show jn (h0 L xs) 164 = .inr (9, _) from rfl)) (by decide) (by decide) (by decide) rfl rfl ?_
  show jE _ _ 45 _ _ _ _ _
  refine je_iinc rfl rfl rfl ?_
  refine je_goto (tgt := 26) rfl rfl ?_
  refine je_iload_n rfl rfl ?_
  refine je_bipush rfl rfl ?_
  refine je_icmp_ge (tgt := 51) rfl rfl ⟨by omega, by omega⟩ ⟨by omega, by omega⟩ (fun c => absurd c (by decide)) (fun _ => ?_)
  show jE _ _ 32 _ _ _ _ _
  show jE _ _ 32 _ _ _ _ _
  refine je_aload_n rfl rfl ?_
  refine xl_getf rfl rfl rfl ?_
  refine je_iload_n rfl rfl ?_
  refine xl_new (K := 10) (T := 13776) rfl rfl rfl rfl (Nat.le_of_ble_eq_true rfl) (Nat.le_of_ble_eq_true rfl) (Nat.le_of_ble_eq_true rfl) ?_
  refine je_dup rfl rfl ?_
  show jE _ _ 41 _ _ _ _ _
  refine xl_callI (q := 182) (M := 200) (T := 15139) (as := []) rfl (by omega) rfl rfl (fun F' => ci_9 l 182 13776 (by omega) F') rfl rfl rfl (Nat.le_of_ble_eq_true rfl) rfl (Nat.le_of_ble_eq_true rfl) (Nat.le_of_ble_eq_true rfl) (Nat.le_of_ble_eq_true rfl) rfl ?_
  refine xl_aast (M := 16) (zn := 9) (ex1 := [(19, _), (0, _)]) rfl (Or.inr ⟨rfl, rfl⟩) rfl ((mkL_b rfl (Or.inl (by omega))).trans (show jn (h0 L xs) 182 = .inr (9, _) from rfl)) (by decide) (by decide) (by decide) rfl rfl ?_
  refine je_iinc rfl rfl rfl ?_
  refine je_goto (tgt := 26) rfl rfl ?_
  refine je_iload_n rfl rfl ?_
  show jE _ _ 27 _ _ _ _ _
  refine je_bipush rfl rfl ?_
  refine je_icmp_ge (tgt := 51) rfl rfl ⟨by omega, by omega⟩ ⟨by omega, by omega⟩ (fun c => absurd c (by decide)) (fun _ => ?_)
  show jE _ _ 32 _ _ _ _ _
  refine je_aload_n rfl rfl ?_
  refine xl_getf rfl rfl rfl ?_
  refine je_iload_n rfl rfl ?_
  show jE _ _ 37 _ _ _ _ _
  refine xl_new (K := 10) (T := 15149) rfl rfl rfl rfl (Nat.le_of_ble_eq_true rfl) (Nat.le_of_ble_eq_true rfl) (Nat.le_of_ble_eq_true rfl) ?_
  refine je_dup rfl rfl ?_
  refine xl_callI (q := 200) (M := 218) (T := 16512) (as := []) rfl (by omega) rfl rfl (fun F' => ci_9 l 200 15149 (by omega) F') rfl rfl rfl (Nat.le_of_ble_eq_true rfl) rfl (Nat.le_of_ble_eq_true rfl) (Nat.le_of_ble_eq_true rfl) (Nat.le_of_ble_eq_true rfl) rfl ?_
  refine xl_aast (M := 16) (zn := 10) (ex1 := [(19, _), (0, _)]) rfl (Or.inr ⟨rfl, rfl⟩) rfl ((mkL_b rfl (Or.inl (by omega))).trans (show jn (h0 L xs) 200 = .inr (9, _) from rfl)) (by decide) (by decide) (by decide) rfl rfl ?_
  refine je_iinc rfl rfl rfl ?_
  show jE _ _ 48 _ _ _ _ _
  refine je_goto (tgt := 26) rfl rfl ?_
  refine je_iload_n rfl rfl ?_
  refine je_bipush rfl rfl ?_
  refine je_icmp_ge (tgt := 51) rfl rfl ⟨by omega, by omega⟩ ⟨by omega, by omega⟩ (fun c => absurd c (by decide)) (fun _ => ?_)
  show jE _ _ 32 _ _ _ _ _
  refine je_aload_n rfl rfl ?_
  show jE _ _ 33 _ _ _ _ _
  refine xl_getf rfl rfl rfl ?_
  refine je_iload_n rfl rfl ?_
  refine xl_new (K := 10) (T := 16522) rfl rfl rfl rfl (Nat.le_of_ble_eq_true rfl) (Nat.le_of_ble_eq_true rfl) (Nat.le_of_ble_eq_true rfl) ?_
  refine je_dup rfl rfl ?_
  refine xl_callI (q := 218) (M := 236) (T := 17885) (as := []) rfl (by omega) rfl rfl (fun F' => ci_9 l 218 16522 (by omega) F') rfl rfl rfl (Nat.le_of_ble_eq_true rfl) rfl (Nat.le_of_ble_eq_true rfl) (Nat.le_of_ble_eq_true rfl) (Nat.le_of_ble_eq_true rfl) rfl ?_
  show jE _ _ 44 _ _ _ _ _
  refine xl_aast (M := 16) (zn := 11) (ex1 := [(19, _), (0, _)]) rfl (Or.inr ⟨rfl, rfl⟩) rfl ((mkL_b rfl (Or.inl (by omega))).trans (show jn (h0 L xs) 218 = .inr (9, _) from rfl)) (by decide) (by decide) (by decide) rfl rfl ?_
  refine je_iinc rfl rfl rfl ?_
  refine je_goto (tgt := 26) rfl rfl ?_
  refine je_iload_n rfl rfl ?_
  refine je_bipush rfl rfl ?_
  show jE _ _ 29 _ _ _ _ _
  refine je_icmp_ge (tgt := 51) rfl rfl ⟨by omega, by omega⟩ ⟨by omega, by omega⟩ (fun c => absurd c (by decide)) (fun _ => ?_)
  show jE _ _ 32 _ _ _ _ _
  refine je_aload_n rfl rfl ?_
  refine xl_getf rfl rfl rfl ?_
  refine je_iload_n rfl rfl ?_
  refine xl_new (K := 10) (T := 17895) rfl rfl rfl rfl (Nat.le_of_ble_eq_true rfl) (Nat.le_of_ble_eq_true rfl) (Nat.le_of_ble_eq_true rfl) ?_
  show jE _ _ 40 _ _ _ _ _
  refine je_dup rfl rfl ?_
  refine xl_callI (q := 236) (M := 254) (T := 19258) (as := []) rfl (by omega) rfl rfl (fun F' => ci_9 l 236 17895 (by omega) F') rfl rfl rfl (Nat.le_of_ble_eq_true rfl) rfl (Nat.le_of_ble_eq_true rfl) (Nat.le_of_ble_eq_true rfl) (Nat.le_of_ble_eq_true rfl) rfl ?_
  refine xl_aast (M := 16) (zn := 12) (ex1 := [(19, _), (0, _)]) rfl (Or.inr ⟨rfl, rfl⟩) rfl ((mkL_b rfl (Or.inl (by omega))).trans (show jn (h0 L xs) 236 = .inr (9, _) from rfl)) (by decide) (by decide) (by decide) rfl rfl ?_
  refine je_iinc rfl rfl rfl ?_
  refine je_goto (tgt := 26) rfl rfl ?_
  show jE _ _ 26 _ _ _ _ _
  refine je_iload_n rfl rfl ?_
  refine je_bipush rfl rfl ?_
  refine je_icmp_ge (tgt := 51) rfl rfl ⟨by omega, by omega⟩ ⟨by omega, by omega⟩ (fun c => absurd c (by decide)) (fun _ => ?_)
  show jE _ _ 32 _ _ _ _ _
  refine je_aload_n rfl rfl ?_
  refine xl_getf rfl rfl rfl ?_
  show jE _ _ 36 _ _ _ _ _
  refine je_iload_n rfl rfl ?_
  refine xl_new (K := 10) (T := 19268) rfl rfl rfl rfl (Nat.le_of_ble_eq_true rfl) (Nat.le_of_ble_eq_true rfl) (Nat.le_of_ble_eq_true rfl) ?_
  refine je_dup rfl rfl ?_
  refine xl_callI (q := 254) (M := 272) (T := 20631) (as := []) rfl (by omega) rfl rfl (fun F' => ci_9 l 254 19268 (by omega) F') rfl rfl rfl (Nat.le_of_ble_eq_true rfl) rfl (Nat.le_of_ble_eq_true rfl) (Nat.le_of_ble_eq_true rfl) (Nat.le_of_ble_eq_true rfl) rfl ?_
  refine xl_aast (M := 16) (zn := 13) (ex1 := [(19, _), (0, _)]) rfl (Or.inr ⟨rfl, rfl⟩) rfl ((mkL_b rfl (Or.inl (by omega))).trans (show jn (h0 L xs) 254 = .inr (9, _) from rfl)) (by decide) (by decide) (by decide) rfl rfl ?_
  show jE _ _ 45 _ _ _ _ _
  refine je_iinc rfl rfl rfl ?_
  refine je_goto (tgt := 26) rfl rfl ?_
  refine je_iload_n rfl rfl ?_
  refine je_bipush rfl rfl ?_
  refine je_icmp_ge (tgt := 51) rfl rfl ⟨by omega, by omega⟩ ⟨by omega, by omega⟩ (fun c => absurd c (by decide)) (fun _ => ?_)
  show jE _ _ 32 _ _ _ _ _
  show jE _ _ 32 _ _ _ _ _
  refine je_aload_n rfl rfl ?_
  refine xl_getf rfl rfl rfl ?_
  refine je_iload_n rfl rfl ?_
  refine xl_new (K := 10) (T := 20641) rfl rfl rfl rfl (Nat.le_of_ble_eq_true rfl) (Nat.le_of_ble_eq_true rfl) (Nat.le_of_ble_eq_true rfl) ?_
  refine je_dup rfl rfl ?_
  show jE _ _ 41 _ _ _ _ _
  refine xl_callI (q := 272) (M := 290) (T := 22004) (as := []) rfl (by omega) rfl rfl (fun F' => ci_9 l 272 20641 (by omega) F') rfl rfl rfl (Nat.le_of_ble_eq_true rfl) rfl (Nat.le_of_ble_eq_true rfl) (Nat.le_of_ble_eq_true rfl) (Nat.le_of_ble_eq_true rfl) rfl ?_
  refine xl_aast (M := 16) (zn := 14) (ex1 := [(19, _), (0, _)]) rfl (Or.inr ⟨rfl, rfl⟩) rfl ((mkL_b rfl (Or.inl (by omega))).trans (show jn (h0 L xs) 272 = .inr (9, _) from rfl)) (by decide) (by decide) (by decide) rfl rfl ?_
  refine je_iinc rfl rfl rfl ?_
  refine je_goto (tgt := 26) rfl rfl ?_
  refine je_iload_n rfl rfl ?_
  show jE _ _ 27 _ _ _ _ _
  refine je_bipush rfl rfl ?_
  refine je_icmp_ge (tgt := 51) rfl rfl ⟨by omega, by omega⟩ ⟨by omega, by omega⟩ (fun c => absurd c (by decide)) (fun _ => ?_)
  show jE _ _ 32 _ _ _ _ _
  refine je_aload_n rfl rfl ?_
  refine xl_getf rfl rfl rfl ?_
  refine je_iload_n rfl rfl ?_
  show jE _ _ 37 _ _ _ _ _
  refine xl_new (K := 10) (T := 22014) rfl rfl rfl rfl (Nat.le_of_ble_eq_true rfl) (Nat.le_of_ble_eq_true rfl) (Nat.le_of_ble_eq_true rfl) ?_
  refine je_dup rfl rfl ?_
  refine xl_callI (q := 290) (M := 308) (T := 23377) (as := []) rfl (by omega) rfl rfl (fun F' => ci_9 l 290 22014 (by omega) F') rfl rfl rfl (Nat.le_of_ble_eq_true rfl) rfl (Nat.le_of_ble_eq_true rfl) (Nat.le_of_ble_eq_true rfl) (Nat.le_of_ble_eq_true rfl) rfl ?_
  refine xl_aast (M := 16) (zn := 15) (ex1 := [(19, _), (0, _)]) rfl (Or.inr ⟨rfl, rfl⟩) rfl ((mkL_b rfl (Or.inl (by omega))).trans (show jn (h0 L xs) 290 = .inr (9, _) from rfl)) (by decide) (by decide) (by decide) rfl rfl ?_
  refine je_iinc rfl rfl rfl ?_
  show jE _ _ 48 _ _ _ _ _
  refine je_goto (tgt := 26) rfl rfl ?_
  refine je_iload_n rfl rfl ?_
  refine je_bipush rfl rfl ?_
  refine je_icmp_ge (tgt := 51) rfl rfl ⟨by omega, by omega⟩ ⟨by omega, by omega⟩ (fun _ => ?_) (fun c => absurd (show (_ : Int) ≤ _ by decide) c)
  show jE _ _ 51 _ _ _ _ _
  refine xl_drop (b := 19) (Nat.le_of_ble_eq_true rfl) rfl rfl ?_
  refine je_aload_n rfl rfl ?_
  show jE _ _ 52 _ _ _ _ _
  refine je_bipush rfl rfl ?_
  refine xl_newai (M := 16) (T := 23393) rfl (by decide) (by decide) rfl rfl rfl (Nat.le_of_ble_eq_true rfl) (Nat.le_of_ble_eq_true rfl) (Nat.le_of_ble_eq_true rfl) rfl ?_
  refine xl_putF (ex1 := [(0, _)]) (ty := (.array .int)) rfl rfl rfl (by decide +kernel) (Or.inr ⟨_, rfl⟩) rfl (Nat.le_of_ble_eq_true rfl) rfl ?_
  refine je_aload_n rfl rfl ?_
  refine je_iconst rfl ?_
  show jE _ _ 61 _ _ _ _ _
  refine xl_puti (ex1 := [(0, _)]) rfl rfl rfl (Nat.le_of_ble_eq_true rfl) rfl ?_
  refine je_aload_n rfl rfl ?_
  refine je_iconst rfl ?_
  refine xl_puti (ex1 := [(0, _)]) rfl rfl rfl (Nat.le_of_ble_eq_true rfl) rfl ?_
  refine je_aload_n rfl rfl ?_
  show jE _ _ 70 _ _ _ _ _
  refine xl_new (K := 2) (T := 23395) rfl rfl rfl rfl (Nat.le_of_ble_eq_true rfl) (Nat.le_of_ble_eq_true rfl) (Nat.le_of_ble_eq_true rfl) ?_
  refine je_dup rfl rfl ?_
  refine je_sipush rfl rfl ?_
  refine xl_callI (q := 309) (M := 311) (T := 23795) (as := [.int (jI 400)]) rfl (by omega) rfl rfl (fun F' => ci_Row l 309 23395 400 (by omega) (by omega) F') rfl rfl rfl (Nat.le_of_ble_eq_true rfl) rfl (Nat.le_of_ble_eq_true rfl) (Nat.le_of_ble_eq_true rfl) (Nat.le_of_ble_eq_true rfl) rfl ?_
  refine xl_putF (ex1 := [(0, _)]) (ty := (.object "TailPatches$Row")) rfl rfl rfl (by decide +kernel) (Or.inl ⟨_, rfl⟩) rfl (Nat.le_of_ble_eq_true rfl) rfl ?_
  show jE _ _ 83 _ _ _ _ _
  refine je_aload_n rfl rfl ?_
  refine je_iconst rfl ?_
  refine xl_newax (M := 5) (T := 23800) rfl (by decide) (by decide) rfl rfl rfl (Nat.le_of_ble_eq_true rfl) (Nat.le_of_ble_eq_true rfl) (Nat.le_of_ble_eq_true rfl) ?_
  refine xl_putF (ex1 := [(311, _), (0, _)]) (ty := (.array .int)) rfl rfl rfl (by decide +kernel) (Or.inr ⟨_, rfl⟩) rfl (Nat.le_of_ble_eq_true rfl) rfl ?_
  refine je_iconst rfl ?_
  show jE _ _ 91 _ _ _ _ _
  refine je_istore_n rfl (Nat.le_of_ble_eq_true rfl) rfl ?_
  refine je_iload_n rfl rfl ?_
  refine je_iconst rfl ?_
  refine je_icmp_ge (tgt := 114) rfl rfl ⟨by omega, by omega⟩ ⟨by omega, by omega⟩ (fun c => absurd c (by decide)) (fun _ => ?_)
  show jE _ _ 97 _ _ _ _ _
  refine je_aload_n rfl rfl ?_
  show jE _ _ 98 _ _ _ _ _
  refine xl_getf rfl rfl rfl ?_
  refine je_iload_n rfl rfl ?_
  refine je_gets rfl ?_
  refine je_iload_n rfl rfl ?_
  refine je_iald_ro (n := 5) (f := fun k => jI (jst 3000002 k)) rfl ((mkL_b rfl (Or.inr (by omega))).trans rfl) (by omega) (by decide) (by decide) (by decide) ?_
  show jE _ _ 107 _ _ _ _ _
  refine xl_iast (M := 5) (zn := 0) (ex1 := [(311, _), (0, _)]) rfl rfl (by decide) (by decide) (by decide) rfl rfl ?_
  refine je_iinc rfl rfl rfl ?_
  refine je_goto (tgt := 92) rfl rfl ?_
  refine je_iload_n rfl rfl ?_
  refine je_iconst rfl ?_
  show jE _ _ 94 _ _ _ _ _
  refine je_icmp_ge (tgt := 114) rfl rfl ⟨by omega, by omega⟩ ⟨by omega, by omega⟩ (fun c => absurd c (by decide)) (fun _ => ?_)
  show jE _ _ 97 _ _ _ _ _
  refine je_aload_n rfl rfl ?_
  refine xl_getf rfl rfl rfl ?_
  refine je_iload_n rfl rfl ?_
  refine je_gets rfl ?_
  show jE _ _ 105 _ _ _ _ _
  refine je_iload_n rfl rfl ?_
  refine je_iald_ro (n := 5) (f := fun k => jI (jst 3000002 k)) rfl ((mkL_b rfl (Or.inr (by omega))).trans rfl) (by omega) (by decide) (by decide) (by decide) ?_
  refine xl_iast (M := 5) (zn := 1) (ex1 := [(311, _), (0, _)]) rfl rfl (by decide) (by decide) (by decide) rfl rfl ?_
  refine je_iinc rfl rfl rfl ?_
  refine je_goto (tgt := 92) rfl rfl ?_
  show jE _ _ 92 _ _ _ _ _
  refine je_iload_n rfl rfl ?_
  refine je_iconst rfl ?_
  refine je_icmp_ge (tgt := 114) rfl rfl ⟨by omega, by omega⟩ ⟨by omega, by omega⟩ (fun c => absurd c (by decide)) (fun _ => ?_)
  show jE _ _ 97 _ _ _ _ _
  refine je_aload_n rfl rfl ?_
  refine xl_getf rfl rfl rfl ?_
  show jE _ _ 101 _ _ _ _ _
  refine je_iload_n rfl rfl ?_
  refine je_gets rfl ?_
  refine je_iload_n rfl rfl ?_
  refine je_iald_ro (n := 5) (f := fun k => jI (jst 3000002 k)) rfl ((mkL_b rfl (Or.inr (by omega))).trans rfl) (by omega) (by decide) (by decide) (by decide) ?_
  refine xl_iast (M := 5) (zn := 2) (ex1 := [(311, _), (0, _)]) rfl rfl (by decide) (by decide) (by decide) rfl rfl ?_
  show jE _ _ 108 _ _ _ _ _
  refine je_iinc rfl rfl rfl ?_
  refine je_goto (tgt := 92) rfl rfl ?_
  refine je_iload_n rfl rfl ?_
  refine je_iconst rfl ?_
  refine je_icmp_ge (tgt := 114) rfl rfl ⟨by omega, by omega⟩ ⟨by omega, by omega⟩ (fun c => absurd c (by decide)) (fun _ => ?_)
  show jE _ _ 97 _ _ _ _ _
  show jE _ _ 97 _ _ _ _ _
  refine je_aload_n rfl rfl ?_
  refine xl_getf rfl rfl rfl ?_
  refine je_iload_n rfl rfl ?_
  refine je_gets rfl ?_
  refine je_iload_n rfl rfl ?_
  show jE _ _ 106 _ _ _ _ _
  refine je_iald_ro (n := 5) (f := fun k => jI (jst 3000002 k)) rfl ((mkL_b rfl (Or.inr (by omega))).trans rfl) (by omega) (by decide) (by decide) (by decide) ?_
  refine xl_iast (M := 5) (zn := 3) (ex1 := [(311, _), (0, _)]) rfl rfl (by decide) (by decide) (by decide) rfl rfl ?_
  refine je_iinc rfl rfl rfl ?_
  refine je_goto (tgt := 92) rfl rfl ?_
  refine je_iload_n rfl rfl ?_
  show jE _ _ 93 _ _ _ _ _
  refine je_iconst rfl ?_
  refine je_icmp_ge (tgt := 114) rfl rfl ⟨by omega, by omega⟩ ⟨by omega, by omega⟩ (fun c => absurd c (by decide)) (fun _ => ?_)
  show jE _ _ 97 _ _ _ _ _
  refine je_aload_n rfl rfl ?_
  refine xl_getf rfl rfl rfl ?_
  refine je_iload_n rfl rfl ?_
  show jE _ _ 102 _ _ _ _ _
  refine je_gets rfl ?_
  refine je_iload_n rfl rfl ?_
  refine je_iald_ro (n := 5) (f := fun k => jI (jst 3000002 k)) rfl ((mkL_b rfl (Or.inr (by omega))).trans rfl) (by omega) (by decide) (by decide) (by decide) ?_
  refine xl_iast (M := 5) (zn := 4) (ex1 := [(311, _), (0, _)]) rfl rfl (by decide) (by decide) (by decide) rfl rfl ?_
  refine je_iinc rfl rfl rfl ?_
  show jE _ _ 111 _ _ _ _ _
  refine je_goto (tgt := 92) rfl rfl ?_
  refine je_iload_n rfl rfl ?_
  refine je_iconst rfl ?_
  refine je_icmp_ge (tgt := 114) rfl rfl ⟨by omega, by omega⟩ ⟨by omega, by omega⟩ (fun _ => ?_) (fun c => absurd (show (_ : Int) ≤ _ by decide) c)
  show jE _ _ 114 _ _ _ _ _
  refine xl_drop (b := 311) (Nat.le_of_ble_eq_true rfl) e311 rfl ?_
  refine je_aload_n rfl rfl ?_
  show jE _ _ 115 _ _ _ _ _
  refine je_bipush rfl rfl ?_
  refine xl_newai (M := 6) (T := 23806) rfl (by decide) (by decide) rfl rfl rfl (Nat.le_of_ble_eq_true rfl) (Nat.le_of_ble_eq_true rfl) (Nat.le_of_ble_eq_true rfl) rfl ?_
  refine xl_putF (ex1 := [(0, _)]) (ty := (.array .int)) rfl rfl rfl (by decide +kernel) (Or.inr ⟨_, rfl⟩) rfl (Nat.le_of_ble_eq_true rfl) rfl ?_
  refine je_aload_n rfl rfl ?_
  refine je_iconst rfl ?_
  show jE _ _ 124 _ _ _ _ _
  refine xl_puti (ex1 := [(0, _)]) rfl rfl rfl (Nat.le_of_ble_eq_true rfl) rfl ?_
  refine je_aload_n rfl rfl ?_
  refine je_iconst rfl ?_
  refine xl_puti (ex1 := [(0, _)]) rfl rfl rfl (Nat.le_of_ble_eq_true rfl) rfl ?_
  refine je_aload_n rfl rfl ?_
  show jE _ _ 133 _ _ _ _ _
  refine xl_new (K := 6) (T := 23812) rfl rfl rfl rfl (Nat.le_of_ble_eq_true rfl) (Nat.le_of_ble_eq_true rfl) (Nat.le_of_ble_eq_true rfl) ?_
  refine je_dup rfl rfl ?_
  refine xl_callI (q := 313) (M := 319) (T := 24133) (as := []) rfl (by omega) rfl rfl (fun F' => ci_10 l 313 23812 (by omega) F') rfl rfl rfl (Nat.le_of_ble_eq_true rfl) rfl (Nat.le_of_ble_eq_true rfl) (Nat.le_of_ble_eq_true rfl) (Nat.le_of_ble_eq_true rfl) rfl ?_
  refine xl_putF (ex1 := [(0, _)]) (ty := (.object "TailPatches$Tails")) rfl rfl rfl (by decide +kernel) (Or.inl ⟨_, rfl⟩) rfl (Nat.le_of_ble_eq_true rfl) rfl ?_
  refine je_aload_n rfl rfl ?_
  show jE _ _ 144 _ _ _ _ _
  refine xl_new (K := 9) (T := 24142) rfl rfl rfl rfl (Nat.le_of_ble_eq_true rfl) (Nat.le_of_ble_eq_true rfl) (Nat.le_of_ble_eq_true rfl) ?_
  refine je_dup rfl rfl ?_
  refine xl_callI (q := 319) (M := 328) (T := 24593) (as := []) rfl (by omega) rfl rfl (fun F' => ci_0 l 319 24142 (by omega) F') rfl rfl rfl (Nat.le_of_ble_eq_true rfl) rfl (Nat.le_of_ble_eq_true rfl) (Nat.le_of_ble_eq_true rfl) (Nat.le_of_ble_eq_true rfl) rfl ?_
  refine xl_putF (ex1 := [(0, _)]) (ty := (.object "TailPatches$Anchors")) rfl rfl rfl (by decide +kernel) (Or.inl ⟨_, rfl⟩) rfl (Nat.le_of_ble_eq_true rfl) rfl ?_
  refine je_aload_n rfl rfl ?_
  show jE _ _ 155 _ _ _ _ _
  refine xl_new (K := 5) (T := 24598) rfl rfl rfl rfl (Nat.le_of_ble_eq_true rfl) (Nat.le_of_ble_eq_true rfl) (Nat.le_of_ble_eq_true rfl) ?_
  refine je_dup rfl rfl ?_
  refine xl_callI (q := 328) (M := 339) (T := 25636) (as := []) rfl (by omega) rfl rfl (fun F' => ci_4 l 328 24598 (by omega) F') rfl rfl rfl (Nat.le_of_ble_eq_true rfl) rfl (Nat.le_of_ble_eq_true rfl) (Nat.le_of_ble_eq_true rfl) (Nat.le_of_ble_eq_true rfl) rfl ?_
  refine xl_putF (ex1 := [(0, _)]) (ty := (.object "TailPatches$Packer")) rfl rfl rfl (by decide +kernel) (Or.inl ⟨_, rfl⟩) rfl (Nat.le_of_ble_eq_true rfl) rfl ?_
  refine je_aload_n rfl rfl ?_
  show jE _ _ 166 _ _ _ _ _
  refine xl_new (K := 18) (T := 25654) rfl rfl rfl rfl (Nat.le_of_ble_eq_true rfl) (Nat.le_of_ble_eq_true rfl) (Nat.le_of_ble_eq_true rfl) ?_
  refine je_dup rfl rfl ?_
  refine xl_callI (q := 339) (M := 356) (T := 26687) (as := []) rfl (by omega) rfl rfl (fun F' => ci_6 l 339 25654 (by omega) F') rfl rfl rfl (Nat.le_of_ble_eq_true rfl) rfl (Nat.le_of_ble_eq_true rfl) (Nat.le_of_ble_eq_true rfl) (Nat.le_of_ble_eq_true rfl) rfl ?_
  refine xl_putF (ex1 := [(0, _)]) (ty := (.object "TailPatches$Reader")) rfl rfl rfl (by decide +kernel) (Or.inl ⟨_, rfl⟩) rfl (Nat.le_of_ble_eq_true rfl) rfl ?_
  refine je_aload_n rfl rfl ?_
  show jE _ _ 177 _ _ _ _ _
  refine xl_new (K := 12) (T := 26699) rfl rfl rfl rfl (Nat.le_of_ble_eq_true rfl) (Nat.le_of_ble_eq_true rfl) (Nat.le_of_ble_eq_true rfl) ?_
  refine je_dup rfl rfl ?_
  refine xl_callI (q := 356) (M := 362) (T := 27107) (as := []) rfl (by omega) rfl rfl (fun F' => ci_1 l 356 26699 (by omega) F') rfl rfl rfl (Nat.le_of_ble_eq_true rfl) rfl (Nat.le_of_ble_eq_true rfl) (Nat.le_of_ble_eq_true rfl) (Nat.le_of_ble_eq_true rfl) rfl ?_
  refine xl_putF (ex1 := [(0, _)]) (ty := (.object "TailPatches$Copies")) rfl rfl rfl (by decide +kernel) (Or.inl ⟨_, rfl⟩) rfl (Nat.le_of_ble_eq_true rfl) rfl ?_
  refine je_aload_n rfl rfl ?_
  show jE _ _ 188 _ _ _ _ _
  refine xl_new (K := 16) (T := 27123) rfl rfl rfl rfl (Nat.le_of_ble_eq_true rfl) (Nat.le_of_ble_eq_true rfl) (Nat.le_of_ble_eq_true rfl) ?_
  refine je_dup rfl rfl ?_
  refine xl_callI (q := 362) (M := 374) (T := 28055) (as := []) rfl (by omega) rfl rfl (fun F' => ci_7 l 362 27123 (by omega) F') rfl rfl rfl (Nat.le_of_ble_eq_true rfl) rfl (Nat.le_of_ble_eq_true rfl) (Nat.le_of_ble_eq_true rfl) (Nat.le_of_ble_eq_true rfl) rfl ?_
  refine xl_putF (ex1 := [(0, _)]) (ty := (.object "TailPatches$Recipe")) rfl rfl rfl (by decide +kernel) (Or.inl ⟨_, rfl⟩) rfl (Nat.le_of_ble_eq_true rfl) rfl ?_
  refine je_aload_n rfl rfl ?_
  show jE _ _ 199 _ _ _ _ _
  refine xl_new (K := 1) (T := 28056) rfl rfl rfl rfl (Nat.le_of_ble_eq_true rfl) (Nat.le_of_ble_eq_true rfl) (Nat.le_of_ble_eq_true rfl) ?_
  refine je_dup rfl rfl ?_
  refine xl_callI (q := 374) (M := 377) (T := 29338) (as := []) rfl (by omega) rfl rfl (fun F' => ci_2 l 374 28056 (by omega) F') rfl rfl rfl (Nat.le_of_ble_eq_true rfl) rfl (Nat.le_of_ble_eq_true rfl) (Nat.le_of_ble_eq_true rfl) (Nat.le_of_ble_eq_true rfl) rfl ?_
  refine xl_putF (ex1 := [(0, _)]) (ty := (.object "TailPatches$Lister")) rfl rfl rfl (by decide +kernel) (Or.inl ⟨_, rfl⟩) rfl (Nat.le_of_ble_eq_true rfl) rfl ?_
  refine je_aload_n rfl rfl ?_
  show jE _ _ 210 _ _ _ _ _
  refine xl_new (K := 6) (T := 29344) rfl rfl rfl rfl (Nat.le_of_ble_eq_true rfl) (Nat.le_of_ble_eq_true rfl) (Nat.le_of_ble_eq_true rfl) ?_
  refine je_dup rfl rfl ?_
  refine xl_callI (q := 377) (M := 383) (T := 30048) (as := []) rfl (by omega) rfl rfl (fun F' => ci_5 l 377 29344 (by omega) F') rfl rfl rfl (Nat.le_of_ble_eq_true rfl) rfl (Nat.le_of_ble_eq_true rfl) (Nat.le_of_ble_eq_true rfl) (Nat.le_of_ble_eq_true rfl) rfl ?_
  refine xl_putF (ex1 := [(0, _)]) (ty := (.object "TailPatches$Paper")) rfl rfl rfl (by decide +kernel) (Or.inl ⟨_, rfl⟩) rfl (Nat.le_of_ble_eq_true rfl) rfl ?_
  refine je_aload_n rfl rfl ?_
  show jE _ _ 221 _ _ _ _ _
  refine xl_new (K := 3) (T := 30051) rfl rfl rfl rfl (Nat.le_of_ble_eq_true rfl) (Nat.le_of_ble_eq_true rfl) (Nat.le_of_ble_eq_true rfl) ?_
  refine je_dup rfl rfl ?_
  refine xl_callI (q := 383) (M := 386) (T := 30179) (as := []) rfl (by omega) rfl rfl (fun F' => ci_3 l 383 30051 (by omega) F') rfl rfl rfl (Nat.le_of_ble_eq_true rfl) rfl (Nat.le_of_ble_eq_true rfl) (Nat.le_of_ble_eq_true rfl) (Nat.le_of_ble_eq_true rfl) rfl ?_
  refine xl_putF (ex1 := [(0, _)]) (ty := (.object "TailPatches$Origins")) rfl rfl rfl (by decide +kernel) (Or.inl ⟨_, rfl⟩) rfl (Nat.le_of_ble_eq_true rfl) rfl ?_
  refine je_aload_n rfl rfl ?_
  show jE _ _ 232 _ _ _ _ _
  refine xl_new (K := 2) (T := 30181) rfl rfl rfl rfl (Nat.le_of_ble_eq_true rfl) (Nat.le_of_ble_eq_true rfl) (Nat.le_of_ble_eq_true rfl) ?_
  refine je_dup rfl rfl ?_
  refine je_bipush rfl rfl ?_
  refine xl_callI (q := 386) (M := 388) (T := 30245) (as := [.int (jI 64)]) rfl (by omega) rfl rfl (fun F' => ci_Row l 386 30181 64 (by omega) (by omega) F') rfl rfl rfl (Nat.le_of_ble_eq_true rfl) rfl (Nat.le_of_ble_eq_true rfl) (Nat.le_of_ble_eq_true rfl) (Nat.le_of_ble_eq_true rfl) rfl ?_
  refine xl_putF (ex1 := [(0, _)]) (ty := (.object "TailPatches$Row")) rfl rfl rfl (by decide +kernel) (Or.inl ⟨_, rfl⟩) rfl (Nat.le_of_ble_eq_true rfl) rfl ?_
  show jE _ _ 244 _ _ _ _ _
  show jE _ _ 244 _ _ _ _ _
  refine xl_drop (b := 0) (Nat.le_of_ble_eq_true rfl) (rfl) rfl ?_
  exact je_ret rfl
