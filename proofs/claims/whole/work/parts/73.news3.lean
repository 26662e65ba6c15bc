def PX2 (E : En) (h0 : Nat) (ws : va_W) : Prop := ∃ (q : Nat) (b : Nat → Nat → Nat) (f : Nat → Option Nat), (∀ j, j < 5 → f j = some (b j 0)) ∧ ws = (h0, .inr (2, [.ref q, .int 0, .int 0])) :: (q, .inl (E.2.2.2.2, 5, .inr (.inr (.inr (.inr f))))) :: (netW E (b 0) ++ (netW E (b 1) ++ (netW E (b 2) ++ (netW E (b 3) ++ netW E (b 4)))))
theorem ci_X2 : CI yX2_init cX2_init 2 := ⟨tb_183, tb_184, tb_62, ⟨by decide +kernel, by decide +kernel, by decide +kernel⟩, rfl⟩
set_option maxHeartbeats 4000000 in
set_option maxRecDepth 100000 in
theorem n_X2 {l : Launch} {E : En} : Nt l E yX2_init cX2_init 2 3 91 2835 2 [.null, .int 0, .int 0] (PX2 E) := by
  refine Nt.of (fun h0 => [some (.ref h0), none]) (plainFor_of_name pn_X2) rfl rfl (by decide) (fun _ => rfl) ?_
  intro h0 sz
  refine gk_aload_n dX2_init_0 rfl rfl ?_
  refine gk_objInit dX2_init_1 tb_185 (Nat.le_of_ble_eq_true rfl) (Nat.le_of_ble_eq_true rfl) ?_
  refine gk_aload_n dX2_init_4 rfl rfl ?_
  refine gk_iconst (v := 5) dX2_init_5 (by decide) ?_
  refine gk_newR (N' := 5) dX2_init_6 tb_186 (by decide) (by decide) (Nat.le_of_ble_eq_true rfl) (Nat.le_of_ble_eq_true rfl) (Nat.le_of_ble_eq_true rfl) (fun q1 => ?_)
  refine gk_putF (ty := (.array (.object "CallRouter$Network"))) (ws' := ((q1, .inl (E.2.2.2.2, 5, .inr (.inr (.inr (.inr (fun _ => none)))))) :: ((h0, .inr (2, [.ref q1, .int 0, .int 0])) :: []))) dX2_init_9 1 rfl rfl inX2 tyX2 tyX2_ok nmX2 0 (by decide) tb_189 rfl rfl (by decide +kernel) rfl rfl (Nat.le_of_ble_eq_true rfl) rfl ?_
  refine gk_aload_n dX2_init_12 rfl rfl ?_
  refine gk_iconst (v := 0) dX2_init_13 (by decide) ?_
  refine gk_putI (ws' := ((q1, .inl (E.2.2.2.2, 5, .inr (.inr (.inr (.inr (fun _ => none)))))) :: ((h0, .inr (2, [.ref q1, .int 0, .int 0])) :: []))) dX2_init_14 1 rfl rfl inX2 tyX2 tyX2_ok nmX2 1 (by decide) tb_190 rfl rfl (by decide +kernel) (Nat.le_of_ble_eq_true rfl) rfl ?_
  refine gk_aload_n dX2_init_17 rfl rfl ?_
  refine gk_iconst (v := 0) dX2_init_18 (by decide) ?_
  refine gk_putI (ws' := ((q1, .inl (E.2.2.2.2, 5, .inr (.inr (.inr (.inr (fun _ => none)))))) :: ((h0, .inr (2, [.ref q1, .int 0, .int 0])) :: []))) dX2_init_19 1 rfl rfl inX2 tyX2 tyX2_ok nmX2 2 (by decide) tb_191 rfl rfl (by decide +kernel) (Nat.le_of_ble_eq_true rfl) rfl ?_
  refine gk_iconst (v := 0) dX2_init_22 (by decide) ?_
  refine gk_istore_n (lv' := [some (.ref h0), some (.int 0)]) dX2_init_23 rfl (by decide) rfl rfl ?_
  refine gk_iload_n dX2_init_24 rfl rfl ?_
  refine gk_iconst (v := 5) dX2_init_25 (by decide) ?_
  refine gk_ge_F (tgt := 48) dX2_init_26 (by decide) (by decide) ?_
  refine gk_aload_n dX2_init_29 rfl rfl ?_
  refine gk_get dX2_init_30 1 rfl rfl inX2 0 (by decide) tb_189 rfl rfl ?_
  refine gk_iload_n dX2_init_33 rfl rfl ?_
  refine gk_new (ci := 4) (fs := [.null, .null, .null, .null, .null, .int 0, .int 0, .int 0, .int 0]) (C := RX4) (T := TX4) (N := 9) dX2_init_34 rfl inX4 tyX4 tyX4_ok tb_186 tb_80 tb_58 (fun j hj => by rcases (show j = 0 ∨ j = 1 ∨ j = 2 ∨ j = 3 ∨ j = 4 ∨ j = 5 ∨ j = 6 ∨ j = 7 ∨ j = 8 by omega) with rfl | rfl | rfl | rfl | rfl | rfl | rfl | rfl | rfl <;> rfl) (Nat.le_of_ble_eq_true rfl) (Nat.le_of_ble_eq_true rfl) (fun o2 => ?_)
  refine gk_dup dX2_init_37 rfl ?_
  refine gk_callN dX2_init_38 n_X4 ci_X4 tb_188 ⟨(Nat.le_of_ble_eq_true rfl), (Nat.le_of_ble_eq_true rfl)⟩ (Nat.le_of_ble_eq_true rfl) ⟨(Nat.le_of_ble_eq_true rfl), (Nat.le_of_ble_eq_true rfl)⟩ ?_
  rintro w1 ⟨a3, rfl, rfl⟩
  refine gk_aast (ws' := (netW E a3 ++ ((q1, .inl (E.2.2.2.2, 5, .inr (.inr (.inr (.inr (va_up (fun _ => none) (Int32.toNatClampNeg 0) (some (a3 0)))))))) :: ((h0, .inr (2, [.ref q1, .int 0, .int 0])) :: [])))) dX2_init_41 18 0 rfl rfl (by decide) rfl ?_
  refine gk_iinc (v := 1) (lv' := [some (.ref h0), some (.int 1)]) dX2_init_42 rfl (by decide) (by decide) rfl (by rfl) ?_
  refine gk_goto (tgt := 24) dX2_init_45 (by decide) ?_
  refine gk_iload_n dX2_init_24 rfl rfl ?_
  refine gk_iconst (v := 5) dX2_init_25 (by decide) ?_
  refine gk_ge_F (tgt := 48) dX2_init_26 (by decide) (by decide) ?_
  refine gk_aload_n dX2_init_29 rfl rfl ?_
  refine gk_get dX2_init_30 19 rfl rfl inX2 0 (by decide) tb_189 rfl rfl ?_
  refine gk_iload_n dX2_init_33 rfl rfl ?_
  refine gk_new (ci := 4) (fs := [.null, .null, .null, .null, .null, .int 0, .int 0, .int 0, .int 0]) (C := RX4) (T := TX4) (N := 9) dX2_init_34 rfl inX4 tyX4 tyX4_ok tb_186 tb_80 tb_58 (fun j hj => by rcases (show j = 0 ∨ j = 1 ∨ j = 2 ∨ j = 3 ∨ j = 4 ∨ j = 5 ∨ j = 6 ∨ j = 7 ∨ j = 8 by omega) with rfl | rfl | rfl | rfl | rfl | rfl | rfl | rfl | rfl <;> rfl) (Nat.le_of_ble_eq_true rfl) (Nat.le_of_ble_eq_true rfl) (fun o4 => ?_)
  refine gk_dup dX2_init_37 rfl ?_
  refine gk_callN dX2_init_38 n_X4 ci_X4 tb_188 ⟨(Nat.le_of_ble_eq_true rfl), (Nat.le_of_ble_eq_true rfl)⟩ (Nat.le_of_ble_eq_true rfl) ⟨(Nat.le_of_ble_eq_true rfl), (Nat.le_of_ble_eq_true rfl)⟩ ?_
  rintro w1 ⟨a5, rfl, rfl⟩
  refine gk_aast (ws' := (netW E a5 ++ (netW E a3 ++ ((q1, .inl (E.2.2.2.2, 5, .inr (.inr (.inr (.inr (va_up (va_up (fun _ => none) (Int32.toNatClampNeg 0) (some (a3 0))) (Int32.toNatClampNeg 1) (some (a5 0)))))))) :: ((h0, .inr (2, [.ref q1, .int 0, .int 0])) :: []))))) dX2_init_41 36 0 rfl rfl (by decide) rfl ?_
  refine gk_iinc (v := 1) (lv' := [some (.ref h0), some (.int 2)]) dX2_init_42 rfl (by decide) (by decide) rfl (by rfl) ?_
  refine gk_goto (tgt := 24) dX2_init_45 (by decide) ?_
  refine gk_iload_n dX2_init_24 rfl rfl ?_
  refine gk_iconst (v := 5) dX2_init_25 (by decide) ?_
  refine gk_ge_F (tgt := 48) dX2_init_26 (by decide) (by decide) ?_
  refine gk_aload_n dX2_init_29 rfl rfl ?_
  refine gk_get dX2_init_30 37 rfl rfl inX2 0 (by decide) tb_189 rfl rfl ?_
  refine gk_iload_n dX2_init_33 rfl rfl ?_
  refine gk_new (ci := 4) (fs := [.null, .null, .null, .null, .null, .int 0, .int 0, .int 0, .int 0]) (C := RX4) (T := TX4) (N := 9) dX2_init_34 rfl inX4 tyX4 tyX4_ok tb_186 tb_80 tb_58 (fun j hj => by rcases (show j = 0 ∨ j = 1 ∨ j = 2 ∨ j = 3 ∨ j = 4 ∨ j = 5 ∨ j = 6 ∨ j = 7 ∨ j = 8 by omega) with rfl | rfl | rfl | rfl | rfl | rfl | rfl | rfl | rfl <;> rfl) (Nat.le_of_ble_eq_true rfl) (Nat.le_of_ble_eq_true rfl) (fun o6 => ?_)
  refine gk_dup dX2_init_37 rfl ?_
  refine gk_callN dX2_init_38 n_X4 ci_X4 tb_188 ⟨(Nat.le_of_ble_eq_true rfl), (Nat.le_of_ble_eq_true rfl)⟩ (Nat.le_of_ble_eq_true rfl) ⟨(Nat.le_of_ble_eq_true rfl), (Nat.le_of_ble_eq_true rfl)⟩ ?_
  rintro w1 ⟨a7, rfl, rfl⟩
  refine gk_aast (ws' := (netW E a7 ++ (netW E a5 ++ (netW E a3 ++ ((q1, .inl (E.2.2.2.2, 5, .inr (.inr (.inr (.inr (va_up (va_up (va_up (fun _ => none) (Int32.toNatClampNeg 0) (some (a3 0))) (Int32.toNatClampNeg 1) (some (a5 0))) (Int32.toNatClampNeg 2) (some (a7 0)))))))) :: ((h0, .inr (2, [.ref q1, .int 0, .int 0])) :: [])))))) dX2_init_41 54 0 rfl rfl (by decide) rfl ?_
  refine gk_iinc (v := 1) (lv' := [some (.ref h0), some (.int 3)]) dX2_init_42 rfl (by decide) (by decide) rfl (by rfl) ?_
  refine gk_goto (tgt := 24) dX2_init_45 (by decide) ?_
  refine gk_iload_n dX2_init_24 rfl rfl ?_
  refine gk_iconst (v := 5) dX2_init_25 (by decide) ?_
  refine gk_ge_F (tgt := 48) dX2_init_26 (by decide) (by decide) ?_
  refine gk_aload_n dX2_init_29 rfl rfl ?_
  refine gk_get dX2_init_30 55 rfl rfl inX2 0 (by decide) tb_189 rfl rfl ?_
  refine gk_iload_n dX2_init_33 rfl rfl ?_
  refine gk_new (ci := 4) (fs := [.null, .null, .null, .null, .null, .int 0, .int 0, .int 0, .int 0]) (C := RX4) (T := TX4) (N := 9) dX2_init_34 rfl inX4 tyX4 tyX4_ok tb_186 tb_80 tb_58 (fun j hj => by rcases (show j = 0 ∨ j = 1 ∨ j = 2 ∨ j = 3 ∨ j = 4 ∨ j = 5 ∨ j = 6 ∨ j = 7 ∨ j = 8 by omega) with rfl | rfl | rfl | rfl | rfl | rfl | rfl | rfl | rfl <;> rfl) (Nat.le_of_ble_eq_true rfl) (Nat.le_of_ble_eq_true rfl) (fun o8 => ?_)
  refine gk_dup dX2_init_37 rfl ?_
  refine gk_callN dX2_init_38 n_X4 ci_X4 tb_188 ⟨(Nat.le_of_ble_eq_true rfl), (Nat.le_of_ble_eq_true rfl)⟩ (Nat.le_of_ble_eq_true rfl) ⟨(Nat.le_of_ble_eq_true rfl), (Nat.le_of_ble_eq_true rfl)⟩ ?_
  rintro w1 ⟨a9, rfl, rfl⟩
  refine gk_aast (ws' := (netW E a9 ++ (netW E a7 ++ (netW E a5 ++ (netW E a3 ++ ((q1, .inl (E.2.2.2.2, 5, .inr (.inr (.inr (.inr (va_up (va_up (va_up (va_up (fun _ => none) (Int32.toNatClampNeg 0) (some (a3 0))) (Int32.toNatClampNeg 1) (some (a5 0))) (Int32.toNatClampNeg 2) (some (a7 0))) (Int32.toNatClampNeg 3) (some (a9 0)))))))) :: ((h0, .inr (2, [.ref q1, .int 0, .int 0])) :: []))))))) dX2_init_41 72 0 rfl rfl (by decide) rfl ?_
  refine gk_iinc (v := 1) (lv' := [some (.ref h0), some (.int 4)]) dX2_init_42 rfl (by decide) (by decide) rfl (by rfl) ?_
  refine gk_goto (tgt := 24) dX2_init_45 (by decide) ?_
  refine gk_iload_n dX2_init_24 rfl rfl ?_
  refine gk_iconst (v := 5) dX2_init_25 (by decide) ?_
  refine gk_ge_F (tgt := 48) dX2_init_26 (by decide) (by decide) ?_
  refine gk_aload_n dX2_init_29 rfl rfl ?_
  refine gk_get dX2_init_30 73 rfl rfl inX2 0 (by decide) tb_189 rfl rfl ?_
  refine gk_iload_n dX2_init_33 rfl rfl ?_
  refine gk_new (ci := 4) (fs := [.null, .null, .null, .null, .null, .int 0, .int 0, .int 0, .int 0]) (C := RX4) (T := TX4) (N := 9) dX2_init_34 rfl inX4 tyX4 tyX4_ok tb_186 tb_80 tb_58 (fun j hj => by rcases (show j = 0 ∨ j = 1 ∨ j = 2 ∨ j = 3 ∨ j = 4 ∨ j = 5 ∨ j = 6 ∨ j = 7 ∨ j = 8 by omega) with rfl | rfl | rfl | rfl | rfl | rfl | rfl | rfl | rfl <;> rfl) (Nat.le_of_ble_eq_true rfl) (Nat.le_of_ble_eq_true rfl) (fun o10 => ?_)
  refine gk_dup dX2_init_37 rfl ?_
  refine gk_callN dX2_init_38 n_X4 ci_X4 tb_188 ⟨(Nat.le_of_ble_eq_true rfl), (Nat.le_of_ble_eq_true rfl)⟩ (Nat.le_of_ble_eq_true rfl) ⟨(Nat.le_of_ble_eq_true rfl), (Nat.le_of_ble_eq_true rfl)⟩ ?_
  rintro w1 ⟨a11, rfl, rfl⟩
  refine gk_aast (ws' := (netW E a11 ++ (netW E a9 ++ (netW E a7 ++ (netW E a5 ++ (netW E a3 ++ ((q1, .inl (E.2.2.2.2, 5, .inr (.inr (.inr (.inr (va_up (va_up (va_up (va_up (va_up (fun _ => none) (Int32.toNatClampNeg 0) (some (a3 0))) (Int32.toNatClampNeg 1) (some (a5 0))) (Int32.toNatClampNeg 2) (some (a7 0))) (Int32.toNatClampNeg 3) (some (a9 0))) (Int32.toNatClampNeg 4) (some (a11 0)))))))) :: ((h0, .inr (2, [.ref q1, .int 0, .int 0])) :: [])))))))) dX2_init_41 90 0 rfl rfl (by decide) rfl ?_
  refine gk_iinc (v := 1) (lv' := [some (.ref h0), some (.int 5)]) dX2_init_42 rfl (by decide) (by decide) rfl (by rfl) ?_
  refine gk_goto (tgt := 24) dX2_init_45 (by decide) ?_
  refine gk_iload_n dX2_init_24 rfl rfl ?_
  refine gk_iconst (v := 5) dX2_init_25 (by decide) ?_
  refine gk_ge_T (tgt := 48) dX2_init_26 (by decide) (by decide) ?_
  exact gk_vret dX2_init_48 [91, 90, 72, 73, 74, 75, 76, 77, 78, 79, 80, 81, 82, 83, 84, 85, 86, 87, 88, 89, 54, 55, 56, 57, 58, 59, 60, 61, 62, 63, 64, 65, 66, 67, 68, 69, 70, 71, 36, 37, 38, 39, 40, 41, 42, 43, 44, 45, 46, 47, 48, 49, 50, 51, 52, 53, 18, 19, 20, 21, 22, 23, 24, 25, 26, 27, 28, 29, 30, 31, 32, 33, 34, 35, 0, 1, 2, 3, 4, 5, 6, 7, 8, 9, 10, 11, 12, 13, 14, 15, 16, 17] (by rfl) (by decide +kernel) ⟨q1, fun g => match g with | 0 => a3 | 1 => a5 | 2 => a7 | 3 => a9 | _ => a11, (va_up (va_up (va_up (va_up (va_up (fun _ => none) (Int32.toNatClampNeg 0) (some (a3 0))) (Int32.toNatClampNeg 1) (some (a5 0))) (Int32.toNatClampNeg 2) (some (a7 0))) (Int32.toNatClampNeg 3) (some (a9 0))) (Int32.toNatClampNeg 4) (some (a11 0))), fun j hj => by rcases (show j = 0 ∨ j = 1 ∨ j = 2 ∨ j = 3 ∨ j = 4 by omega) with rfl | rfl | rfl | rfl | rfl <;> rfl, rfl⟩
def restW (E : En) (b : Nat → Nat → Nat) (f : Nat → Option Nat) : va_W := [(b 7 0, .inr (9, [.ref (b 0 0), .ref (b 1 0), .ref (b 7 1), .ref (b 7 3), .ref (b 7 11), .ref (b 7 16)])), (b 7 1, .inr (2, [.ref (b 7 2), .int 0, .int 0])), (b 7 2, .inl (E.2.2.2.2, 5, .inr (.inr (.inr (.inr f))))), (b 7 3, .inr (7, [.ref (b 7 4), .ref (b 7 5), .ref (b 7 6), .ref (b 7 7), .ref (b 7 8), .ref (b 7 9), .ref (b 7 10), .int 0, .int 0, .int 0])), (b 7 4, .inl (E.2.2.2.1, 80, .inl (fun _ => 0))), (b 7 5, .inl (E.2.2.2.1, 27, .inl (fun _ => 0))), (b 7 6, .inl (E.2.2.1, 27, .inl (fun _ => 0))), (b 7 7, .inl (E.2.2.1, 27, .inl (fun _ => 0))), (b 7 8, .inl (E.2.2.1, 27, .inl (fun _ => 0))), (b 7 9, .inl (E.2.2.1, 27, .inl (fun _ => 0))), (b 7 10, .inl (E.2.2.1, 27, .inl (fun _ => 0))), (b 7 11, .inr (3, [.ref (b 7 12), .ref (b 7 15), .int 0, .int 0, .int 0, .int 0])), (b 7 12, .inr (8, [.ref (b 7 13), .ref (b 7 14), .int 0])), (b 7 13, .inl (E.2.2.1, 30, .inl (fun _ => 0))), (b 7 14, .inl (E.2.2.1, 30, .inl (fun _ => 0))), (b 7 15, .inl (E.2.2.1, 6, .inl (fun _ => 0))), (b 7 16, .inr (1, [.ref (b 7 17), .ref (b 7 18), .int 0, .int 1000000])), (b 7 17, .inl (E.2.2.1, 64, .inl (fun _ => 0))), (b 7 18, .inl (E.2.2.1, 64, .inl (fun _ => 0)))]
def routW (E : En) (b : Nat → Nat → Nat) (f : Nat → Option Nat) : va_W := netW E (b 0) ++ (netW E (b 1) ++ (netW E (b 2) ++ (netW E (b 3) ++ (netW E (b 4) ++ (netW E (b 5) ++ (netW E (b 6) ++ restW E b f))))))
def PX9 (E : En) (h0 : Nat) (ws : va_W) : Prop := ∃ (b : Nat → Nat → Nat) (f : Nat → Option Nat), b 7 0 = h0 ∧ (∀ j, j < 5 → f j = some (b (2 + j) 0)) ∧ ws = routW E b f
theorem ci_X9 : CI yX9_init cX9_init 1 := ⟨tb_74, tb_75, tb_57, ⟨by decide +kernel, by decide +kernel, by decide +kernel⟩, rfl⟩
set_option maxHeartbeats 4000000 in
set_option maxRecDepth 100000 in
theorem n_X9 {l : Launch} {E : En} : Nt l E yX9_init cX9_init 1 4 144 4429 9 [.null, .null, .null, .null, .null, .null] (PX9 E) := by
  refine Nt.of (fun h0 => [some (.ref h0)]) (plainFor_of_name pn_X9) rfl rfl (by decide) (fun _ => rfl) ?_
  intro h0 sz
  refine gk_aload_n dX9_init_0 rfl rfl ?_
  refine gk_objInit dX9_init_1 tb_76 (Nat.le_of_ble_eq_true rfl) (Nat.le_of_ble_eq_true rfl) ?_
  refine gk_aload_n dX9_init_4 rfl rfl ?_
  refine gk_new (ci := 4) (fs := [.null, .null, .null, .null, .null, .int 0, .int 0, .int 0, .int 0]) (C := RX4) (T := TX4) (N := 9) dX9_init_5 rfl inX4 tyX4 tyX4_ok tb_79 tb_80 tb_58 (fun j hj => by rcases (show j = 0 ∨ j = 1 ∨ j = 2 ∨ j = 3 ∨ j = 4 ∨ j = 5 ∨ j = 6 ∨ j = 7 ∨ j = 8 by omega) with rfl | rfl | rfl | rfl | rfl | rfl | rfl | rfl | rfl <;> rfl) (Nat.le_of_ble_eq_true rfl) (Nat.le_of_ble_eq_true rfl) (fun o1 => ?_)
  refine gk_dup dX9_init_8 rfl ?_
  refine gk_callN dX9_init_9 n_X4 ci_X4 tb_81 ⟨(Nat.le_of_ble_eq_true rfl), (Nat.le_of_ble_eq_true rfl)⟩ (Nat.le_of_ble_eq_true rfl) ⟨(Nat.le_of_ble_eq_true rfl), (Nat.le_of_ble_eq_true rfl)⟩ ?_
  rintro w1 ⟨a2, rfl, rfl⟩
  refine gk_putF (ty := (.object "CallRouter$Network")) (ws' := (netW E a2 ++ ((h0, .inr (9, [.ref (a2 0), .null, .null, .null, .null, .null])) :: []))) dX9_init_12 18 rfl rfl inX9 tyX9 tyX9_ok nmX9 0 (by decide) tb_298 rfl rfl (by decide +kernel) rfl rfl (Nat.le_of_ble_eq_true rfl) rfl ?_
  refine gk_aload_n dX9_init_15 rfl rfl ?_
  refine gk_new (ci := 4) (fs := [.null, .null, .null, .null, .null, .int 0, .int 0, .int 0, .int 0]) (C := RX4) (T := TX4) (N := 9) dX9_init_16 rfl inX4 tyX4 tyX4_ok tb_79 tb_80 tb_58 (fun j hj => by rcases (show j = 0 ∨ j = 1 ∨ j = 2 ∨ j = 3 ∨ j = 4 ∨ j = 5 ∨ j = 6 ∨ j = 7 ∨ j = 8 by omega) with rfl | rfl | rfl | rfl | rfl | rfl | rfl | rfl | rfl <;> rfl) (Nat.le_of_ble_eq_true rfl) (Nat.le_of_ble_eq_true rfl) (fun o3 => ?_)
  refine gk_dup dX9_init_19 rfl ?_
  refine gk_callN dX9_init_20 n_X4 ci_X4 tb_81 ⟨(Nat.le_of_ble_eq_true rfl), (Nat.le_of_ble_eq_true rfl)⟩ (Nat.le_of_ble_eq_true rfl) ⟨(Nat.le_of_ble_eq_true rfl), (Nat.le_of_ble_eq_true rfl)⟩ ?_
  rintro w1 ⟨a4, rfl, rfl⟩
  refine gk_putF (ty := (.object "CallRouter$Network")) (ws' := (netW E a4 ++ (netW E a2 ++ ((h0, .inr (9, [.ref (a2 0), .ref (a4 0), .null, .null, .null, .null])) :: [])))) dX9_init_23 36 rfl rfl inX9 tyX9 tyX9_ok nmX9 1 (by decide) tb_299 rfl rfl (by decide +kernel) rfl rfl (Nat.le_of_ble_eq_true rfl) rfl ?_
  refine gk_aload_n dX9_init_26 rfl rfl ?_
  refine gk_new (ci := 2) (fs := [.null, .int 0, .int 0]) (C := RX2) (T := TX2) (N := 3) dX9_init_27 rfl inX2 tyX2 tyX2_ok tb_180 tb_181 tb_62 (fun j hj => by rcases (show j = 0 ∨ j = 1 ∨ j = 2 by omega) with rfl | rfl | rfl <;> rfl) (Nat.le_of_ble_eq_true rfl) (Nat.le_of_ble_eq_true rfl) (fun o5 => ?_)
  refine gk_dup dX9_init_30 rfl ?_
  refine gk_callI dX9_init_31 n_X2 ci_X2 tb_182 ⟨(Nat.le_of_ble_eq_true rfl), (Nat.le_of_ble_eq_true rfl)⟩ (Nat.le_of_ble_eq_true rfl) ⟨(Nat.le_of_ble_eq_true rfl), (Nat.le_of_ble_eq_true rfl)⟩ ?_
  rintro w1 ⟨q6, b7, f8, hf9, rfl⟩
  refine gk_putF (ty := (.object "CallRouter$History")) (ws' := (((o5, .inr (2, [.ref q6, .int 0, .int 0])) :: (q6, .inl (E.2.2.2.2, 5, .inr (.inr (.inr (.inr f8))))) :: (netW E (b7 0) ++ (netW E (b7 1) ++ (netW E (b7 2) ++ (netW E (b7 3) ++ netW E (b7 4)))))) ++ (netW E a4 ++ (netW E a2 ++ ((h0, .inr (9, [.ref (a2 0), .ref (a4 0), .ref o5, .null, .null, .null])) :: []))))) dX9_init_34 128 rfl rfl inX9 tyX9 tyX9_ok nmX9 2 (by decide) tb_300 rfl rfl (by decide +kernel) rfl rfl (Nat.le_of_ble_eq_true rfl) rfl ?_
  refine gk_aload_n dX9_init_37 rfl rfl ?_
  refine gk_new (ci := 7) (fs := [.null, .null, .null, .null, .null, .null, .null, .int 0, .int 0, .int 0]) (C := RX7) (T := TX7) (N := 10) dX9_init_38 rfl inX7 tyX7 tyX7_ok tb_199 tb_200 tb_63 (fun j hj => by rcases (show j = 0 ∨ j = 1 ∨ j = 2 ∨ j = 3 ∨ j = 4 ∨ j = 5 ∨ j = 6 ∨ j = 7 ∨ j = 8 ∨ j = 9 by omega) with rfl | rfl | rfl | rfl | rfl | rfl | rfl | rfl | rfl | rfl <;> rfl) (Nat.le_of_ble_eq_true rfl) (Nat.le_of_ble_eq_true rfl) (fun o10 => ?_)
  refine gk_dup dX9_init_41 rfl ?_
  refine gk_callN dX9_init_42 n_X7 ci_X7 tb_201 ⟨(Nat.le_of_ble_eq_true rfl), (Nat.le_of_ble_eq_true rfl)⟩ (Nat.le_of_ble_eq_true rfl) ⟨(Nat.le_of_ble_eq_true rfl), (Nat.le_of_ble_eq_true rfl)⟩ ?_
  rintro w1 ⟨q11, q12, q13, q14, q15, q16, q17, rfl⟩
  refine gk_putF (ty := (.object "CallRouter$Text")) (ws' := ((o10, .inr (7, [.ref q11, .ref q12, .ref q13, .ref q14, .ref q15, .ref q16, .ref q17, .int 0, .int 0, .int 0])) :: ((q11, .inl (E.2.2.2.1, 80, .inl (fun _ => 0))) :: ((q12, .inl (E.2.2.2.1, 27, .inl (fun _ => 0))) :: ((q13, .inl (E.2.2.1, 27, .inl (fun _ => 0))) :: ((q14, .inl (E.2.2.1, 27, .inl (fun _ => 0))) :: ((q15, .inl (E.2.2.1, 27, .inl (fun _ => 0))) :: ((q16, .inl (E.2.2.1, 27, .inl (fun _ => 0))) :: ((q17, .inl (E.2.2.1, 27, .inl (fun _ => 0))) :: (((o5, .inr (2, [.ref q6, .int 0, .int 0])) :: (q6, .inl (E.2.2.2.2, 5, .inr (.inr (.inr (.inr f8))))) :: (netW E (b7 0) ++ (netW E (b7 1) ++ (netW E (b7 2) ++ (netW E (b7 3) ++ netW E (b7 4)))))) ++ (netW E a4 ++ (netW E a2 ++ ((h0, .inr (9, [.ref (a2 0), .ref (a4 0), .ref o5, .ref o10, .null, .null])) :: []))))))))))))) dX9_init_45 136 rfl rfl inX9 tyX9 tyX9_ok nmX9 3 (by decide) tb_301 rfl rfl (by decide +kernel) rfl rfl (Nat.le_of_ble_eq_true rfl) rfl ?_
  refine gk_aload_n dX9_init_48 rfl rfl ?_
  refine gk_new (ci := 3) (fs := [.null, .null, .int 0, .int 0, .int 0, .int 0]) (C := RX3) (T := TX3) (N := 6) dX9_init_49 rfl inX3 tyX3 tyX3_ok tb_237 tb_238 tb_64 (fun j hj => by rcases (show j = 0 ∨ j = 1 ∨ j = 2 ∨ j = 3 ∨ j = 4 ∨ j = 5 by omega) with rfl | rfl | rfl | rfl | rfl | rfl <;> rfl) (Nat.le_of_ble_eq_true rfl) (Nat.le_of_ble_eq_true rfl) (fun o18 => ?_)
  refine gk_dup dX9_init_52 rfl ?_
  refine gk_callN dX9_init_53 n_X3 ci_X3 tb_239 ⟨(Nat.le_of_ble_eq_true rfl), (Nat.le_of_ble_eq_true rfl)⟩ (Nat.le_of_ble_eq_true rfl) ⟨(Nat.le_of_ble_eq_true rfl), (Nat.le_of_ble_eq_true rfl)⟩ ?_
  rintro w1 ⟨q19, q20, q21, q22, rfl⟩
  refine gk_putF (ty := (.object "CallRouter$Journey")) (ws' := ((o18, .inr (3, [.ref q19, .ref q22, .int 0, .int 0, .int 0, .int 0])) :: ((q19, .inr (8, [.ref q20, .ref q21, .int 0])) :: ((q20, .inl (E.2.2.1, 30, .inl (fun _ => 0))) :: ((q21, .inl (E.2.2.1, 30, .inl (fun _ => 0))) :: ((q22, .inl (E.2.2.1, 6, .inl (fun _ => 0))) :: ((o10, .inr (7, [.ref q11, .ref q12, .ref q13, .ref q14, .ref q15, .ref q16, .ref q17, .int 0, .int 0, .int 0])) :: ((q11, .inl (E.2.2.2.1, 80, .inl (fun _ => 0))) :: ((q12, .inl (E.2.2.2.1, 27, .inl (fun _ => 0))) :: ((q13, .inl (E.2.2.1, 27, .inl (fun _ => 0))) :: ((q14, .inl (E.2.2.1, 27, .inl (fun _ => 0))) :: ((q15, .inl (E.2.2.1, 27, .inl (fun _ => 0))) :: ((q16, .inl (E.2.2.1, 27, .inl (fun _ => 0))) :: ((q17, .inl (E.2.2.1, 27, .inl (fun _ => 0))) :: (((o5, .inr (2, [.ref q6, .int 0, .int 0])) :: (q6, .inl (E.2.2.2.2, 5, .inr (.inr (.inr (.inr f8))))) :: (netW E (b7 0) ++ (netW E (b7 1) ++ (netW E (b7 2) ++ (netW E (b7 3) ++ netW E (b7 4)))))) ++ (netW E a4 ++ (netW E a2 ++ ((h0, .inr (9, [.ref (a2 0), .ref (a4 0), .ref o5, .ref o10, .ref o18, .null])) :: [])))))))))))))))))) dX9_init_56 141 rfl rfl inX9 tyX9 tyX9_ok nmX9 4 (by decide) tb_302 rfl rfl (by decide +kernel) rfl rfl (Nat.le_of_ble_eq_true rfl) rfl ?_
  refine gk_aload_n dX9_init_59 rfl rfl ?_
  refine gk_new (ci := 1) (fs := [.null, .null, .int 0, .int 0]) (C := RX1) (T := TX1) (N := 4) dX9_init_60 rfl inX1 tyX1 tyX1_ok tb_278 tb_279 tb_66 (fun j hj => by rcases (show j = 0 ∨ j = 1 ∨ j = 2 ∨ j = 3 by omega) with rfl | rfl | rfl | rfl <;> rfl) (Nat.le_of_ble_eq_true rfl) (Nat.le_of_ble_eq_true rfl) (fun o23 => ?_)
  refine gk_dup dX9_init_63 rfl ?_
  refine gk_callN dX9_init_64 n_X1 ci_X1 tb_280 ⟨(Nat.le_of_ble_eq_true rfl), (Nat.le_of_ble_eq_true rfl)⟩ (Nat.le_of_ble_eq_true rfl) ⟨(Nat.le_of_ble_eq_true rfl), (Nat.le_of_ble_eq_true rfl)⟩ ?_
  rintro w1 ⟨q24, q25, rfl⟩
  refine gk_putF (ty := (.object "CallRouter$CheapestWay")) (ws' := ((o23, .inr (1, [.ref q24, .ref q25, .int 0, .int 1000000])) :: ((q24, .inl (E.2.2.1, 64, .inl (fun _ => 0))) :: ((q25, .inl (E.2.2.1, 64, .inl (fun _ => 0))) :: ((o18, .inr (3, [.ref q19, .ref q22, .int 0, .int 0, .int 0, .int 0])) :: ((q19, .inr (8, [.ref q20, .ref q21, .int 0])) :: ((q20, .inl (E.2.2.1, 30, .inl (fun _ => 0))) :: ((q21, .inl (E.2.2.1, 30, .inl (fun _ => 0))) :: ((q22, .inl (E.2.2.1, 6, .inl (fun _ => 0))) :: ((o10, .inr (7, [.ref q11, .ref q12, .ref q13, .ref q14, .ref q15, .ref q16, .ref q17, .int 0, .int 0, .int 0])) :: ((q11, .inl (E.2.2.2.1, 80, .inl (fun _ => 0))) :: ((q12, .inl (E.2.2.2.1, 27, .inl (fun _ => 0))) :: ((q13, .inl (E.2.2.1, 27, .inl (fun _ => 0))) :: ((q14, .inl (E.2.2.1, 27, .inl (fun _ => 0))) :: ((q15, .inl (E.2.2.1, 27, .inl (fun _ => 0))) :: ((q16, .inl (E.2.2.1, 27, .inl (fun _ => 0))) :: ((q17, .inl (E.2.2.1, 27, .inl (fun _ => 0))) :: (((o5, .inr (2, [.ref q6, .int 0, .int 0])) :: (q6, .inl (E.2.2.2.2, 5, .inr (.inr (.inr (.inr f8))))) :: (netW E (b7 0) ++ (netW E (b7 1) ++ (netW E (b7 2) ++ (netW E (b7 3) ++ netW E (b7 4)))))) ++ (netW E a4 ++ (netW E a2 ++ ((h0, .inr (9, [.ref (a2 0), .ref (a4 0), .ref o5, .ref o10, .ref o18, .ref o23])) :: []))))))))))))))))))))) dX9_init_67 144 rfl rfl inX9 tyX9 tyX9_ok nmX9 5 (by decide) tb_303 rfl rfl (by decide +kernel) rfl rfl (Nat.le_of_ble_eq_true rfl) rfl ?_
  exact gk_vret dX9_init_70 [126, 127, 128, 129, 130, 131, 132, 133, 134, 135, 136, 137, 138, 139, 140, 141, 142, 143, 108, 109, 110, 111, 112, 113, 114, 115, 116, 117, 118, 119, 120, 121, 122, 123, 124, 125, 18, 19, 20, 21, 22, 23, 24, 25, 26, 27, 28, 29, 30, 31, 32, 33, 34, 35, 36, 37, 38, 39, 40, 41, 42, 43, 44, 45, 46, 47, 48, 49, 50, 51, 52, 53, 54, 55, 56, 57, 58, 59, 60, 61, 62, 63, 64, 65, 66, 67, 68, 69, 70, 71, 72, 73, 74, 75, 76, 77, 78, 79, 80, 81, 82, 83, 84, 85, 86, 87, 88, 89, 90, 91, 92, 93, 94, 95, 96, 97, 98, 99, 100, 101, 102, 103, 104, 105, 106, 107, 144, 16, 17, 8, 9, 10, 11, 12, 13, 14, 15, 3, 4, 5, 6, 7, 0, 1, 2] (by rfl) (by decide +kernel) ⟨fun g => match g with | 0 => a2 | 1 => a4 | 7 => (fun c => match c with | 0 => h0 | 1 => o5 | 2 => q6 | 3 => o10 | 4 => q11 | 5 => q12 | 6 => q13 | 7 => q14 | 8 => q15 | 9 => q16 | 10 => q17 | 11 => o18 | 12 => q19 | 13 => q20 | 14 => q21 | 15 => q22 | 16 => o23 | 17 => q24 | _ => q25) | n => b7 (n - 2), f8, rfl, fun j hj => by rcases (show j = 0 ∨ j = 1 ∨ j = 2 ∨ j = 3 ∨ j = 4 by omega) with rfl | rfl | rfl | rfl | rfl <;> exact hf9 _ (by omega), rfl⟩
