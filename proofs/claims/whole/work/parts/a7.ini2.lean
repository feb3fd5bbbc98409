set_option maxRecDepth 20000 in
set_option maxHeartbeats 4000000 in
theorem ci_12 (l : Launch) (L : Int) (xs : Nat → Int) : jCl l 199 [.ref 388] (mkL (h0 L xs) [(388, .inr (12, jdv 12))] 389 30330) none (mkL (h0 L xs) [] 434 58835) := by
  refine jCl.of (by omega) (Nat.le_of_ble_eq_true rfl) (Nat.le_of_ble_eq_true rfl) (Nat.le_of_ble_eq_true rfl) rfl ?_
  refine je_aload_n rfl rfl ?_
  refine je_obj rfl (Nat.le_of_ble_eq_true rfl) rfl ?_
  refine je_aload_n rfl rfl ?_
  refine je_bipush rfl rfl ?_
  show jE _ _ 7 _ _ _ _ _
  refine xl_newai (M := 7) (T := 30337) rfl (by decide) (by decide) rfl rfl rfl (Nat.le_of_ble_eq_true rfl) (Nat.le_of_ble_eq_true rfl) (Nat.le_of_ble_eq_true rfl) rfl ?_
  refine xl_putF (ex1 := [(388, _)]) (ty := (.array .int)) rfl rfl rfl (by decide +kernel) (Or.inr ⟨_, rfl⟩) rfl (Nat.le_of_ble_eq_true rfl) rfl ?_
  refine je_aload_n rfl rfl ?_
  refine je_sipush rfl rfl ?_
  refine xl_newax (M := 1362) (T := 31699) rfl (by decide) (by decide) rfl rfl rfl (Nat.le_of_ble_eq_true rfl) (Nat.le_of_ble_eq_true rfl) (Nat.le_of_ble_eq_true rfl) ?_
  show jE _ _ 18 _ _ _ _ _
  refine xl_putF (ex1 := [(390, _), (388, _)]) (ty := (.array .int)) rfl rfl rfl (by decide +kernel) (Or.inr ⟨_, rfl⟩) rfl (Nat.le_of_ble_eq_true rfl) rfl ?_
  refine je_aload_n rfl rfl ?_
  refine je_sipush rfl rfl ?_
  refine xl_newai (M := 21712) (T := 53411) rfl (by decide) (by decide) rfl rfl rfl (Nat.le_of_ble_eq_true rfl) (Nat.le_of_ble_eq_true rfl) (Nat.le_of_ble_eq_true rfl) rfl ?_
  refine xl_putF (ex1 := [(390, _), (388, _)]) (ty := (.array .int)) rfl rfl rfl (by decide +kernel) (Or.inr ⟨_, rfl⟩) rfl (Nat.le_of_ble_eq_true rfl) rfl ?_
  show jE _ _ 30 _ _ _ _ _
  refine je_aload_n rfl rfl ?_
  refine je_bipush rfl rfl ?_
  refine xl_newai (M := 16) (T := 53427) rfl (by decide) (by decide) rfl rfl rfl (Nat.le_of_ble_eq_true rfl) (Nat.le_of_ble_eq_true rfl) (Nat.le_of_ble_eq_true rfl) rfl ?_
  refine xl_putF (ex1 := [(390, _), (388, _)]) (ty := (.array .int)) rfl rfl rfl (by decide +kernel) (Or.inr ⟨_, rfl⟩) rfl (Nat.le_of_ble_eq_true rfl) rfl ?_
  refine je_aload_n rfl rfl ?_
  show jE _ _ 39 _ _ _ _ _
  refine je_sipush rfl rfl ?_
  refine xl_newai (M := 400) (T := 53827) rfl (by decide) (by decide) rfl rfl rfl (Nat.le_of_ble_eq_true rfl) (Nat.le_of_ble_eq_true rfl) (Nat.le_of_ble_eq_true rfl) rfl ?_
  refine xl_putF (ex1 := [(390, _), (388, _)]) (ty := (.array .int)) rfl rfl rfl (by decide +kernel) (Or.inr ⟨_, rfl⟩) rfl (Nat.le_of_ble_eq_true rfl) rfl ?_
  refine je_aload_n rfl rfl ?_
  refine je_bipush rfl rfl ?_
  show jE _ _ 50 _ _ _ _ _
  refine xl_newai (M := 64) (T := 53891) rfl (by decide) (by decide) rfl rfl rfl (Nat.le_of_ble_eq_true rfl) (Nat.le_of_ble_eq_true rfl) (Nat.le_of_ble_eq_true rfl) rfl ?_
  refine xl_putF (ex1 := [(390, _), (388, _)]) (ty := (.array .int)) rfl rfl rfl (by decide +kernel) (Or.inr ⟨_, rfl⟩) rfl (Nat.le_of_ble_eq_true rfl) rfl ?_
  refine je_aload_n rfl rfl ?_
  refine je_bipush rfl rfl ?_
  refine xl_newai (M := 64) (T := 53955) rfl (by decide) (by decide) rfl rfl rfl (Nat.le_of_ble_eq_true rfl) (Nat.le_of_ble_eq_true rfl) (Nat.le_of_ble_eq_true rfl) rfl ?_
  show jE _ _ 60 _ _ _ _ _
  refine xl_putF (ex1 := [(390, _), (388, _)]) (ty := (.array .int)) rfl rfl rfl (by decide +kernel) (Or.inr ⟨_, rfl⟩) rfl (Nat.le_of_ble_eq_true rfl) rfl ?_
  refine je_aload_n rfl rfl ?_
  refine je_bipush rfl rfl ?_
  refine xl_newai (M := 64) (T := 54019) rfl (by decide) (by decide) rfl rfl rfl (Nat.le_of_ble_eq_true rfl) (Nat.le_of_ble_eq_true rfl) (Nat.le_of_ble_eq_true rfl) rfl ?_
  refine xl_putF (ex1 := [(390, _), (388, _)]) (ty := (.array .int)) rfl rfl rfl (by decide +kernel) (Or.inr ⟨_, rfl⟩) rfl (Nat.le_of_ble_eq_true rfl) rfl ?_
  show jE _ _ 71 _ _ _ _ _
  refine je_aload_n rfl rfl ?_
  refine je_bipush rfl rfl ?_
  refine xl_newai (M := 64) (T := 54083) rfl (by decide) (by decide) rfl rfl rfl (Nat.le_of_ble_eq_true rfl) (Nat.le_of_ble_eq_true rfl) (Nat.le_of_ble_eq_true rfl) rfl ?_
  refine xl_putF (ex1 := [(390, _), (388, _)]) (ty := (.array .int)) rfl rfl rfl (by decide +kernel) (Or.inr ⟨_, rfl⟩) rfl (Nat.le_of_ble_eq_true rfl) rfl ?_
  refine je_aload_n rfl rfl ?_
  show jE _ _ 80 _ _ _ _ _
  refine je_bipush rfl rfl ?_
  refine xl_newai (M := 66) (T := 54149) rfl (by decide) (by decide) rfl rfl rfl (Nat.le_of_ble_eq_true rfl) (Nat.le_of_ble_eq_true rfl) (Nat.le_of_ble_eq_true rfl) rfl ?_
  refine xl_putF (ex1 := [(390, _), (388, _)]) (ty := (.array .int)) rfl rfl rfl (by decide +kernel) (Or.inr ⟨_, rfl⟩) rfl (Nat.le_of_ble_eq_true rfl) rfl ?_
  refine je_aload_n rfl rfl ?_
  refine je_bipush rfl rfl ?_
  show jE _ _ 90 _ _ _ _ _
  refine xl_newai (M := 66) (T := 54215) rfl (by decide) (by decide) rfl rfl rfl (Nat.le_of_ble_eq_true rfl) (Nat.le_of_ble_eq_true rfl) (Nat.le_of_ble_eq_true rfl) rfl ?_
  refine xl_putF (ex1 := [(390, _), (388, _)]) (ty := (.array .int)) rfl rfl rfl (by decide +kernel) (Or.inr ⟨_, rfl⟩) rfl (Nat.le_of_ble_eq_true rfl) rfl ?_
  refine je_aload_n rfl rfl ?_
  refine je_bipush rfl rfl ?_
  refine xl_newai (M := 66) (T := 54281) rfl (by decide) (by decide) rfl rfl rfl (Nat.le_of_ble_eq_true rfl) (Nat.le_of_ble_eq_true rfl) (Nat.le_of_ble_eq_true rfl) rfl ?_
  show jE _ _ 100 _ _ _ _ _
  refine xl_putF (ex1 := [(390, _), (388, _)]) (ty := (.array .int)) rfl rfl rfl (by decide +kernel) (Or.inr ⟨_, rfl⟩) rfl (Nat.le_of_ble_eq_true rfl) rfl ?_
  refine je_aload_n rfl rfl ?_
  refine je_bipush rfl rfl ?_
  refine xl_newai (M := 66) (T := 54347) rfl (by decide) (by decide) rfl rfl rfl (Nat.le_of_ble_eq_true rfl) (Nat.le_of_ble_eq_true rfl) (Nat.le_of_ble_eq_true rfl) rfl ?_
  refine xl_putF (ex1 := [(390, _), (388, _)]) (ty := (.array .int)) rfl rfl rfl (by decide +kernel) (Or.inr ⟨_, rfl⟩) rfl (Nat.le_of_ble_eq_true rfl) rfl ?_
  show jE _ _ 111 _ _ _ _ _
  refine je_aload_n rfl rfl ?_
  refine je_bipush rfl rfl ?_
  refine xl_newai (M := 66) (T := 54413) rfl (by decide) (by decide) rfl rfl rfl (Nat.le_of_ble_eq_true rfl) (Nat.le_of_ble_eq_true rfl) (Nat.le_of_ble_eq_true rfl) rfl ?_
  refine xl_putF (ex1 := [(390, _), (388, _)]) (ty := (.array .int)) rfl rfl rfl (by decide +kernel) (Or.inr ⟨_, rfl⟩) rfl (Nat.le_of_ble_eq_true rfl) rfl ?_
  refine je_aload_n rfl rfl ?_
  show jE _ _ 120 _ _ _ _ _
  refine je_bipush rfl rfl ?_
  refine xl_newai (M := 64) (T := 54477) rfl (by decide) (by decide) rfl rfl rfl (Nat.le_of_ble_eq_true rfl) (Nat.le_of_ble_eq_true rfl) (Nat.le_of_ble_eq_true rfl) rfl ?_
  refine xl_putF (ex1 := [(390, _), (388, _)]) (ty := (.array .int)) rfl rfl rfl (by decide +kernel) (Or.inr ⟨_, rfl⟩) rfl (Nat.le_of_ble_eq_true rfl) rfl ?_
  refine je_aload_n rfl rfl ?_
  refine je_bipush rfl rfl ?_
  show jE _ _ 130 _ _ _ _ _
  refine xl_newai (M := 64) (T := 54541) rfl (by decide) (by decide) rfl rfl rfl (Nat.le_of_ble_eq_true rfl) (Nat.le_of_ble_eq_true rfl) (Nat.le_of_ble_eq_true rfl) rfl ?_
  refine xl_putF (ex1 := [(390, _), (388, _)]) (ty := (.array .int)) rfl rfl rfl (by decide +kernel) (Or.inr ⟨_, rfl⟩) rfl (Nat.le_of_ble_eq_true rfl) rfl ?_
  refine je_aload_n rfl rfl ?_
  refine je_sipush rfl rfl ?_
  refine xl_newai (M := 400) (T := 54941) rfl (by decide) (by decide) rfl rfl rfl (Nat.le_of_ble_eq_true rfl) (Nat.le_of_ble_eq_true rfl) (Nat.le_of_ble_eq_true rfl) rfl ?_
  show jE _ _ 141 _ _ _ _ _
  refine xl_putF (ex1 := [(390, _), (388, _)]) (ty := (.array .int)) rfl rfl rfl (by decide +kernel) (Or.inr ⟨_, rfl⟩) rfl (Nat.le_of_ble_eq_true rfl) rfl ?_
  refine je_aload_n rfl rfl ?_
  refine je_bipush rfl rfl ?_
  refine xl_newai (M := 64) (T := 55005) rfl (by decide) (by decide) rfl rfl rfl (Nat.le_of_ble_eq_true rfl) (Nat.le_of_ble_eq_true rfl) (Nat.le_of_ble_eq_true rfl) rfl ?_
  refine xl_putF (ex1 := [(390, _), (388, _)]) (ty := (.array .int)) rfl rfl rfl (by decide +kernel) (Or.inr ⟨_, rfl⟩) rfl (Nat.le_of_ble_eq_true rfl) rfl ?_
  show jE _ _ 152 _ _ _ _ _
  refine je_aload_n rfl rfl ?_
  refine je_sipush rfl rfl ?_
  refine xl_newai (M := 300) (T := 55305) rfl (by decide) (by decide) rfl rfl rfl (Nat.le_of_ble_eq_true rfl) (Nat.le_of_ble_eq_true rfl) (Nat.le_of_ble_eq_true rfl) rfl ?_
  refine xl_putF (ex1 := [(390, _), (388, _)]) (ty := (.array .int)) rfl rfl rfl (by decide +kernel) (Or.inr ⟨_, rfl⟩) rfl (Nat.le_of_ble_eq_true rfl) rfl ?_
  refine je_aload_n rfl rfl ?_
  show jE _ _ 162 _ _ _ _ _
  refine je_bipush rfl rfl ?_
  refine xl_newai (M := 100) (T := 55405) rfl (by decide) (by decide) rfl rfl rfl (Nat.le_of_ble_eq_true rfl) (Nat.le_of_ble_eq_true rfl) (Nat.le_of_ble_eq_true rfl) rfl ?_
  refine xl_putF (ex1 := [(390, _), (388, _)]) (ty := (.array .int)) rfl rfl rfl (by decide +kernel) (Or.inr ⟨_, rfl⟩) rfl (Nat.le_of_ble_eq_true rfl) rfl ?_
  refine je_aload_n rfl rfl ?_
  refine je_bipush rfl rfl ?_
  show jE _ _ 172 _ _ _ _ _
  refine xl_newai (M := 100) (T := 55505) rfl (by decide) (by decide) rfl rfl rfl (Nat.le_of_ble_eq_true rfl) (Nat.le_of_ble_eq_true rfl) (Nat.le_of_ble_eq_true rfl) rfl ?_
  refine xl_putF (ex1 := [(390, _), (388, _)]) (ty := (.array .int)) rfl rfl rfl (by decide +kernel) (Or.inr ⟨_, rfl⟩) rfl (Nat.le_of_ble_eq_true rfl) rfl ?_
  refine je_aload_n rfl rfl ?_
  refine je_bipush rfl rfl ?_
  refine xl_newai (M := 100) (T := 55605) rfl (by decide) (by decide) rfl rfl rfl (Nat.le_of_ble_eq_true rfl) (Nat.le_of_ble_eq_true rfl) (Nat.le_of_ble_eq_true rfl) rfl ?_
  show jE _ _ 182 _ _ _ _ _
  refine xl_putF (ex1 := [(390, _), (388, _)]) (ty := (.array .int)) rfl rfl rfl (by decide +kernel) (Or.inr ⟨_, rfl⟩) rfl (Nat.le_of_ble_eq_true rfl) rfl ?_
  refine je_aload_n rfl rfl ?_
  refine je_bipush rfl rfl ?_
  refine xl_newai (M := 100) (T := 55705) rfl (by decide) (by decide) rfl rfl rfl (Nat.le_of_ble_eq_true rfl) (Nat.le_of_ble_eq_true rfl) (Nat.le_of_ble_eq_true rfl) rfl ?_
  refine xl_putF (ex1 := [(390, _), (388, _)]) (ty := (.array .int)) rfl rfl rfl (by decide +kernel) (Or.inr ⟨_, rfl⟩) rfl (Nat.le_of_ble_eq_true rfl) rfl ?_
  show jE _ _ 193 _ _ _ _ _
  refine je_aload_n rfl rfl ?_
  refine je_iconst rfl ?_
  refine xl_newai (M := 2) (T := 55707) rfl (by decide) (by decide) rfl rfl rfl (Nat.le_of_ble_eq_true rfl) (Nat.le_of_ble_eq_true rfl) (Nat.le_of_ble_eq_true rfl) rfl ?_
  refine xl_putF (ex1 := [(390, _), (388, _)]) (ty := (.array .int)) rfl rfl rfl (by decide +kernel) (Or.inr ⟨_, rfl⟩) rfl (Nat.le_of_ble_eq_true rfl) rfl ?_
  refine je_aload_n rfl rfl ?_
  show jE _ _ 201 _ _ _ _ _
  refine je_bipush rfl rfl ?_
  refine xl_newai (M := 64) (T := 55771) rfl (by decide) (by decide) rfl rfl rfl (Nat.le_of_ble_eq_true rfl) (Nat.le_of_ble_eq_true rfl) (Nat.le_of_ble_eq_true rfl) rfl ?_
  refine xl_putF (ex1 := [(390, _), (388, _)]) (ty := (.array .int)) rfl rfl rfl (by decide +kernel) (Or.inr ⟨_, rfl⟩) rfl (Nat.le_of_ble_eq_true rfl) rfl ?_
  refine je_aload_n rfl rfl ?_
  refine je_bipush rfl rfl ?_
  show jE _ _ 211 _ _ _ _ _
  refine xl_newai (M := 64) (T := 55835) rfl (by decide) (by decide) rfl rfl rfl (Nat.le_of_ble_eq_true rfl) (Nat.le_of_ble_eq_true rfl) (Nat.le_of_ble_eq_true rfl) rfl ?_
  refine xl_putF (ex1 := [(390, _), (388, _)]) (ty := (.array .int)) rfl rfl rfl (by decide +kernel) (Or.inr ⟨_, rfl⟩) rfl (Nat.le_of_ble_eq_true rfl) rfl ?_
  refine je_aload_n rfl rfl ?_
  refine je_bipush rfl rfl ?_
  refine xl_newai (M := 64) (T := 55899) rfl (by decide) (by decide) rfl rfl rfl (Nat.le_of_ble_eq_true rfl) (Nat.le_of_ble_eq_true rfl) (Nat.le_of_ble_eq_true rfl) rfl ?_
  show jE _ _ 221 _ _ _ _ _
  refine xl_putF (ex1 := [(390, _), (388, _)]) (ty := (.array .int)) rfl rfl rfl (by decide +kernel) (Or.inr ⟨_, rfl⟩) rfl (Nat.le_of_ble_eq_true rfl) rfl ?_
  refine je_aload_n rfl rfl ?_
  refine je_bipush rfl rfl ?_
  refine xl_newai (M := 8) (T := 55907) rfl (by decide) (by decide) rfl rfl rfl (Nat.le_of_ble_eq_true rfl) (Nat.le_of_ble_eq_true rfl) (Nat.le_of_ble_eq_true rfl) rfl ?_
  refine xl_putF (ex1 := [(390, _), (388, _)]) (ty := (.array .int)) rfl rfl rfl (by decide +kernel) (Or.inr ⟨_, rfl⟩) rfl (Nat.le_of_ble_eq_true rfl) rfl ?_
  show jE _ _ 232 _ _ _ _ _
  refine je_aload_n rfl rfl ?_
  refine je_bipush rfl rfl ?_
  refine xl_newai (M := 100) (T := 56007) rfl (by decide) (by decide) rfl rfl rfl (Nat.le_of_ble_eq_true rfl) (Nat.le_of_ble_eq_true rfl) (Nat.le_of_ble_eq_true rfl) rfl ?_
  refine xl_putF (ex1 := [(390, _), (388, _)]) (ty := (.array .int)) rfl rfl rfl (by decide +kernel) (Or.inr ⟨_, rfl⟩) rfl (Nat.le_of_ble_eq_true rfl) rfl ?_
  refine je_aload_n rfl rfl ?_
  show jE _ _ 241 _ _ _ _ _
  refine je_bipush rfl rfl ?_
  refine xl_newai (M := 100) (T := 56107) rfl (by decide) (by decide) rfl rfl rfl (Nat.le_of_ble_eq_true rfl) (Nat.le_of_ble_eq_true rfl) (Nat.le_of_ble_eq_true rfl) rfl ?_
  refine xl_putF (ex1 := [(390, _), (388, _)]) (ty := (.array .int)) rfl rfl rfl (by decide +kernel) (Or.inr ⟨_, rfl⟩) rfl (Nat.le_of_ble_eq_true rfl) rfl ?_
  refine je_aload_n rfl rfl ?_
  refine je_iconst rfl ?_
  show jE _ _ 250 _ _ _ _ _
  refine xl_puti (ex1 := [(390, _), (388, _)]) rfl rfl rfl (Nat.le_of_ble_eq_true rfl) rfl ?_
  refine je_aload_n rfl rfl ?_
  refine je_iconst rfl ?_
  refine xl_newal (M := 5) (T := 56112) rfl (by decide) (by decide) rfl rfl rfl (Nat.le_of_ble_eq_true rfl) (Nat.le_of_ble_eq_true rfl) (Nat.le_of_ble_eq_true rfl) ?_
  refine je_dup rfl rfl ?_
  show jE _ _ 258 _ _ _ _ _
  refine je_iconst rfl ?_
  refine je_ldc2 (z := 656741) rfl (by decide +kernel) ?_
  refine xl_last (M := 5) (zn := 0) (ex1 := [(419, _), (390, _), (388, _)]) rfl rfl (by decide) (by decide) (by decide) rfl rfl ?_
  refine je_dup rfl rfl ?_
  refine je_iconst rfl ?_
  show jE _ _ 265 _ _ _ _ _
  refine je_ldc2 (z := 206220) rfl (by decide +kernel) ?_
  refine xl_last (M := 5) (zn := 1) (ex1 := [(419, _), (390, _), (388, _)]) rfl rfl (by decide) (by decide) (by decide) rfl rfl ?_
  refine je_dup rfl rfl ?_
  refine je_iconst rfl ?_
  refine je_ldc2 (z := 19513) rfl (by decide +kernel) ?_
  show jE _ _ 274 _ _ _ _ _
  refine xl_last (M := 5) (zn := 2) (ex1 := [(419, _), (390, _), (388, _)]) rfl rfl (by decide) (by decide) (by decide) rfl rfl ?_
  refine je_dup rfl rfl ?_
  refine je_iconst rfl ?_
  refine je_ldc2 (z := 1279278) rfl (by decide +kernel) ?_
  refine xl_last (M := 5) (zn := 3) (ex1 := [(419, _), (390, _), (388, _)]) rfl rfl (by decide) (by decide) (by decide) rfl rfl ?_
  show jE _ _ 281 _ _ _ _ _
  refine je_dup rfl rfl ?_
  refine je_iconst rfl ?_
  refine je_ldc2 (z := 21279923) rfl (by decide +kernel) ?_
  refine xl_last (M := 5) (zn := 4) (ex1 := [(419, _), (390, _), (388, _)]) rfl rfl (by decide) (by decide) (by decide) rfl rfl ?_
  refine xl_putF (ex1 := [(419, _), (390, _), (388, _)]) (ty := (.array .long)) rfl rfl rfl (by decide +kernel) (Or.inr ⟨_, rfl⟩) rfl (Nat.le_of_ble_eq_true rfl) rfl ?_
  show jE _ _ 290 _ _ _ _ _
  refine xl_drop (b := 419) (Nat.le_of_ble_eq_true rfl) e419 rfl ?_
  show jE _ _ 290 _ _ _ _ _
  refine je_aload_n rfl rfl ?_
  refine je_bipush rfl rfl ?_
  refine xl_newai (M := 24) (T := 56136) rfl (by decide) (by decide) rfl rfl rfl (Nat.le_of_ble_eq_true rfl) (Nat.le_of_ble_eq_true rfl) (Nat.le_of_ble_eq_true rfl) rfl ?_
  refine xl_putF (ex1 := [(390, _), (388, _)]) (ty := (.array .int)) rfl rfl rfl (by decide +kernel) (Or.inr ⟨_, rfl⟩) rfl (Nat.le_of_ble_eq_true rfl) rfl ?_
  refine je_aload_n rfl rfl ?_
  show jE _ _ 299 _ _ _ _ _
  refine je_bipush rfl rfl ?_
  refine xl_newai (M := 24) (T := 56160) rfl (by decide) (by decide) rfl rfl rfl (Nat.le_of_ble_eq_true rfl) (Nat.le_of_ble_eq_true rfl) (Nat.le_of_ble_eq_true rfl) rfl ?_
  refine xl_putF (ex1 := [(390, _), (388, _)]) (ty := (.array .int)) rfl rfl rfl (by decide +kernel) (Or.inr ⟨_, rfl⟩) rfl (Nat.le_of_ble_eq_true rfl) rfl ?_
  refine je_aload_n rfl rfl ?_
  refine je_bipush rfl rfl ?_
  show jE _ _ 309 _ _ _ _ _
  refine xl_newai (M := 24) (T := 56184) rfl (by decide) (by decide) rfl rfl rfl (Nat.le_of_ble_eq_true rfl) (Nat.le_of_ble_eq_true rfl) (Nat.le_of_ble_eq_true rfl) rfl ?_
  refine xl_putF (ex1 := [(390, _), (388, _)]) (ty := (.array .int)) rfl rfl rfl (by decide +kernel) (Or.inr ⟨_, rfl⟩) rfl (Nat.le_of_ble_eq_true rfl) rfl ?_
  refine je_aload_n rfl rfl ?_
  refine je_bipush rfl rfl ?_
  refine xl_newai (M := 24) (T := 56208) rfl (by decide) (by decide) rfl rfl rfl (Nat.le_of_ble_eq_true rfl) (Nat.le_of_ble_eq_true rfl) (Nat.le_of_ble_eq_true rfl) rfl ?_
  show jE _ _ 319 _ _ _ _ _
  refine xl_putF (ex1 := [(390, _), (388, _)]) (ty := (.array .int)) rfl rfl rfl (by decide +kernel) (Or.inr ⟨_, rfl⟩) rfl (Nat.le_of_ble_eq_true rfl) rfl ?_
  refine je_aload_n rfl rfl ?_
  refine je_bipush rfl rfl ?_
  refine xl_newai (M := 24) (T := 56232) rfl (by decide) (by decide) rfl rfl rfl (Nat.le_of_ble_eq_true rfl) (Nat.le_of_ble_eq_true rfl) (Nat.le_of_ble_eq_true rfl) rfl ?_
  refine xl_putF (ex1 := [(390, _), (388, _)]) (ty := (.array .int)) rfl rfl rfl (by decide +kernel) (Or.inr ⟨_, rfl⟩) rfl (Nat.le_of_ble_eq_true rfl) rfl ?_
  show jE _ _ 330 _ _ _ _ _
  refine je_aload_n rfl rfl ?_
  refine je_sipush rfl rfl ?_
  refine xl_newai (M := 400) (T := 56632) rfl (by decide) (by decide) rfl rfl rfl (Nat.le_of_ble_eq_true rfl) (Nat.le_of_ble_eq_true rfl) (Nat.le_of_ble_eq_true rfl) rfl ?_
  refine xl_putF (ex1 := [(390, _), (388, _)]) (ty := (.array .int)) rfl rfl rfl (by decide +kernel) (Or.inr ⟨_, rfl⟩) rfl (Nat.le_of_ble_eq_true rfl) rfl ?_
  refine je_aload_n rfl rfl ?_
  show jE _ _ 340 _ _ _ _ _
  refine je_iconst rfl ?_
  refine xl_newai (M := 5) (T := 56637) rfl (by decide) (by decide) rfl rfl rfl (Nat.le_of_ble_eq_true rfl) (Nat.le_of_ble_eq_true rfl) (Nat.le_of_ble_eq_true rfl) rfl ?_
  refine xl_putF (ex1 := [(390, _), (388, _)]) (ty := (.array .int)) rfl rfl rfl (by decide +kernel) (Or.inr ⟨_, rfl⟩) rfl (Nat.le_of_ble_eq_true rfl) rfl ?_
  refine je_aload_n rfl rfl ?_
  refine je_iconst rfl ?_
  show jE _ _ 348 _ _ _ _ _
  refine xl_newai (M := 5) (T := 56642) rfl (by decide) (by decide) rfl rfl rfl (Nat.le_of_ble_eq_true rfl) (Nat.le_of_ble_eq_true rfl) (Nat.le_of_ble_eq_true rfl) rfl ?_
  refine xl_putF (ex1 := [(390, _), (388, _)]) (ty := (.array .int)) rfl rfl rfl (by decide +kernel) (Or.inr ⟨_, rfl⟩) rfl (Nat.le_of_ble_eq_true rfl) rfl ?_
  refine je_aload_n rfl rfl ?_
  refine je_iconst rfl ?_
  refine xl_puti (ex1 := [(390, _), (388, _)]) rfl rfl rfl (Nat.le_of_ble_eq_true rfl) rfl ?_
  show jE _ _ 358 _ _ _ _ _
  refine je_aload_n rfl rfl ?_
  refine je_sipush rfl rfl ?_
  refine xl_newai (M := 1600) (T := 58242) rfl (by decide) (by decide) rfl rfl rfl (Nat.le_of_ble_eq_true rfl) (Nat.le_of_ble_eq_true rfl) (Nat.le_of_ble_eq_true rfl) rfl ?_
  refine xl_putF (ex1 := [(390, _), (388, _)]) (ty := (.array .int)) rfl rfl rfl (by decide +kernel) (Or.inr ⟨_, rfl⟩) rfl (Nat.le_of_ble_eq_true rfl) rfl ?_
  refine je_aload_n rfl rfl ?_
  show jE _ _ 368 _ _ _ _ _
  refine je_bipush rfl rfl ?_
  refine xl_newai (M := 64) (T := 58306) rfl (by decide) (by decide) rfl rfl rfl (Nat.le_of_ble_eq_true rfl) (Nat.le_of_ble_eq_true rfl) (Nat.le_of_ble_eq_true rfl) rfl ?_
  refine xl_putF (ex1 := [(390, _), (388, _)]) (ty := (.array .int)) rfl rfl rfl (by decide +kernel) (Or.inr ⟨_, rfl⟩) rfl (Nat.le_of_ble_eq_true rfl) rfl ?_
  refine je_aload_n rfl rfl ?_
  refine je_bipush rfl rfl ?_
  show jE _ _ 378 _ _ _ _ _
  refine xl_newai (M := 64) (T := 58370) rfl (by decide) (by decide) rfl rfl rfl (Nat.le_of_ble_eq_true rfl) (Nat.le_of_ble_eq_true rfl) (Nat.le_of_ble_eq_true rfl) rfl ?_
  refine xl_putF (ex1 := [(390, _), (388, _)]) (ty := (.array .int)) rfl rfl rfl (by decide +kernel) (Or.inr ⟨_, rfl⟩) rfl (Nat.le_of_ble_eq_true rfl) rfl ?_
  refine je_aload_n rfl rfl ?_
  refine je_bipush rfl rfl ?_
  refine xl_newai (M := 65) (T := 58435) rfl (by decide) (by decide) rfl rfl rfl (Nat.le_of_ble_eq_true rfl) (Nat.le_of_ble_eq_true rfl) (Nat.le_of_ble_eq_true rfl) rfl ?_
  show jE _ _ 388 _ _ _ _ _
  refine xl_putF (ex1 := [(390, _), (388, _)]) (ty := (.array .int)) rfl rfl rfl (by decide +kernel) (Or.inr ⟨_, rfl⟩) rfl (Nat.le_of_ble_eq_true rfl) rfl ?_
  refine je_aload_n rfl rfl ?_
  refine je_bipush rfl rfl ?_
  refine xl_newai (M := 100) (T := 58535) rfl (by decide) (by decide) rfl rfl rfl (Nat.le_of_ble_eq_true rfl) (Nat.le_of_ble_eq_true rfl) (Nat.le_of_ble_eq_true rfl) rfl ?_
  refine xl_putF (ex1 := [(390, _), (388, _)]) (ty := (.array .int)) rfl rfl rfl (by decide +kernel) (Or.inr ⟨_, rfl⟩) rfl (Nat.le_of_ble_eq_true rfl) rfl ?_
  show jE _ _ 399 _ _ _ _ _
  refine je_aload_n rfl rfl ?_
  refine je_sipush rfl rfl ?_
  refine xl_newai (M := 300) (T := 58835) rfl (by decide) (by decide) rfl rfl rfl (Nat.le_of_ble_eq_true rfl) (Nat.le_of_ble_eq_true rfl) (Nat.le_of_ble_eq_true rfl) rfl ?_
  refine xl_putF (ex1 := [(390, _), (388, _)]) (ty := (.array .int)) rfl rfl rfl (by decide +kernel) (Or.inr ⟨_, rfl⟩) rfl (Nat.le_of_ble_eq_true rfl) rfl ?_
  refine je_aload_n rfl rfl ?_
  show jE _ _ 409 _ _ _ _ _
  refine xl_getf rfl rfl rfl ?_
  refine je_iconst rfl ?_
  refine je_iconst rfl ?_
  refine xl_iast (M := 1362) (zn := 0) (ex1 := [(390, _), (388, _)]) rfl rfl (by decide) (by decide) (by decide) rfl rfl ?_
  refine je_aload_n rfl rfl ?_
  show jE _ _ 416 _ _ _ _ _
  refine xl_getf rfl rfl rfl ?_
  refine je_iconst rfl ?_
  refine je_iconst rfl ?_
  refine xl_iast (M := 1362) (zn := 1) (ex1 := [(390, _), (388, _)]) rfl rfl (by decide) (by decide) (by decide) rfl rfl ?_
  refine je_aload_n rfl rfl ?_
  show jE _ _ 423 _ _ _ _ _
  refine xl_getf rfl rfl rfl ?_
  refine je_iconst rfl ?_
  refine je_iconst rfl ?_
  refine xl_iast (M := 1362) (zn := 2) (ex1 := [(390, _), (388, _)]) rfl rfl (by decide) (by decide) (by decide) rfl rfl ?_
  refine je_aload_n rfl rfl ?_
  show jE _ _ 430 _ _ _ _ _
  refine xl_getf rfl rfl rfl ?_
  refine je_iconst rfl ?_
  refine je_iconst rfl ?_
  refine xl_iast (M := 1362) (zn := 3) (ex1 := [(390, _), (388, _)]) rfl rfl (by decide) (by decide) (by decide) rfl rfl ?_
  refine je_aload_n rfl rfl ?_
  show jE _ _ 437 _ _ _ _ _
  refine xl_getf rfl rfl rfl ?_
  refine je_iconst rfl ?_
  refine je_iconst rfl ?_
  refine xl_iast (M := 1362) (zn := 4) (ex1 := [(390, _), (388, _)]) rfl rfl (by decide) (by decide) (by decide) rfl rfl ?_
  refine je_iconst rfl ?_
  show jE _ _ 444 _ _ _ _ _
  refine je_istore_n rfl (Nat.le_of_ble_eq_true rfl) rfl ?_
  refine je_iload_n rfl rfl ?_
  refine je_iconst rfl ?_
  refine je_icmp_ge (tgt := 466) rfl rfl ⟨by omega, by omega⟩ ⟨by omega, by omega⟩ (fun c => absurd c (by decide)) (fun _ => ?_)
  show jE _ _ 450 _ _ _ _ _
  refine je_aload_n rfl rfl ?_
  show jE _ _ 451 _ _ _ _ _
  refine xl_getf rfl rfl rfl ?_
  refine je_iload_n rfl rfl ?_
  refine je_callS (as := [.int (jI (0))]) (rest := [.ref 390]) rfl (by omega) rfl (ci_slotAt l _ _) rfl (Nat.le_of_ble_eq_true rfl) (Nat.le_of_ble_eq_true rfl) (Nat.le_of_ble_eq_true rfl) rfl ?_
  show jE _ _ 458 _ (.int _ :: .ref 390 :: []) _ _ _
  refine je_iconst rfl ?_
  refine xl_iast (M := 1362) (zn := 200) (ex1 := [(390, _), (388, _)]) rfl rfl (by decide) (by decide) (by decide) rfl rfl ?_
  show jE _ _ 460 _ _ _ _ _
  refine je_iinc rfl rfl rfl ?_
  refine je_goto (tgt := 445) rfl rfl ?_
  refine je_iload_n rfl rfl ?_
  refine je_iconst rfl ?_
  refine je_icmp_ge (tgt := 466) rfl rfl ⟨by omega, by omega⟩ ⟨by omega, by omega⟩ (fun c => absurd c (by decide)) (fun _ => ?_)
  show jE _ _ 450 _ _ _ _ _
  show jE _ _ 450 _ _ _ _ _
  refine je_aload_n rfl rfl ?_
  refine xl_getf rfl rfl rfl ?_
  refine je_iload_n rfl rfl ?_
  refine je_callS (as := [.int (jI (0 + 1))]) (rest := [.ref 390]) rfl (by omega) rfl (ci_slotAt l _ _) rfl (Nat.le_of_ble_eq_true rfl) (Nat.le_of_ble_eq_true rfl) (Nat.le_of_ble_eq_true rfl) rfl ?_
  show jE _ _ 458 _ (.int _ :: .ref 390 :: []) _ _ _
  refine je_iconst rfl ?_
  show jE _ _ 459 _ _ _ _ _
  refine xl_iast (M := 1362) (zn := 501) (ex1 := [(390, _), (388, _)]) rfl rfl (by decide) (by decide) (by decide) rfl rfl ?_
  refine je_iinc rfl rfl rfl ?_
  refine je_goto (tgt := 445) rfl rfl ?_
  refine je_iload_n rfl rfl ?_
  refine je_iconst rfl ?_
  show jE _ _ 447 _ _ _ _ _
  refine je_icmp_ge (tgt := 466) rfl rfl ⟨by omega, by omega⟩ ⟨by omega, by omega⟩ (fun c => absurd c (by decide)) (fun _ => ?_)
  show jE _ _ 450 _ _ _ _ _
  refine je_aload_n rfl rfl ?_
  refine xl_getf rfl rfl rfl ?_
  refine je_iload_n rfl rfl ?_
  refine je_callS (as := [.int (jI (0 + 1 + 1))]) (rest := [.ref 390]) rfl (by omega) rfl (ci_slotAt l _ _) rfl (Nat.le_of_ble_eq_true rfl) (Nat.le_of_ble_eq_true rfl) (Nat.le_of_ble_eq_true rfl) rfl ?_
  show jE _ _ 458 _ (.int _ :: .ref 390 :: []) _ _ _
  show jE _ _ 458 _ _ _ _ _
  refine je_iconst rfl ?_
  refine xl_iast (M := 1362) (zn := 802) (ex1 := [(390, _), (388, _)]) rfl rfl (by decide) (by decide) (by decide) rfl rfl ?_
  refine je_iinc rfl rfl rfl ?_
  refine je_goto (tgt := 445) rfl rfl ?_
  refine je_iload_n rfl rfl ?_
  show jE _ _ 446 _ _ _ _ _
  refine je_iconst rfl ?_
  refine je_icmp_ge (tgt := 466) rfl rfl ⟨by omega, by omega⟩ ⟨by omega, by omega⟩ (fun _ => ?_) (fun c => absurd (show (_ : Int) ≤ _ by decide) c)
  show jE _ _ 466 _ _ _ _ _
  show jE _ _ 466 _ _ _ _ _
  refine xl_drop (b := 390) (Nat.le_of_ble_eq_true rfl) (e390) rfl ?_
  refine xl_drop (b := 388) (Nat.le_of_ble_eq_true rfl) (rfl) rfl ?_
  exact je_ret rfl
