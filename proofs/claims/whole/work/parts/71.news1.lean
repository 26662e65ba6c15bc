def PX0 (E : En) (h0 : Nat) (ws : va_W) : Prop := ∃ x1 x2 x3 x4 : Nat, ws = [(h0, .inr (0, [.ref x1, .ref x2, .ref x3, .ref x4, .int 0])), (x1, .inl (E.2.2.1, 10, .inl (fun _ => 0))), (x2, .inl (E.2.2.1, 10, .inl (fun _ => 0))), (x3, .inl (E.2.2.1, 10, .inl (fun _ => 0))), (x4, .inl (E.2.2.1, 60, .inl (fun _ => 0)))]
theorem ci_X0 : CI yX0_init cX0_init 1 := ⟨tb_133, tb_134, tb_61, ⟨by decide +kernel, by decide +kernel, by decide +kernel⟩, rfl⟩
set_option maxHeartbeats 4000000 in
set_option maxRecDepth 100000 in
theorem n_X0 {l : Launch} {E : En} : Nt l E yX0_init cX0_init 1 1 4 90 0 [.null, .null, .null, .null, .int 0] (PX0 E) := by
  refine Nt.of (fun h0 => [some (.ref h0)]) (plainFor_of_name pn_X0) rfl rfl (by decide) (fun _ => rfl) ?_
  intro h0 sz
  refine gk_aload_n dX0_init_0 rfl rfl ?_
  refine gk_objInit dX0_init_1 tb_135 (Nat.le_of_ble_eq_true rfl) (Nat.le_of_ble_eq_true rfl) ?_
  refine gk_aload_n dX0_init_4 rfl rfl ?_
  refine gk_bipush (v := 10) dX0_init_5 (by decide) ?_
  refine gk_newI (N' := 10) dX0_init_7 (by decide) (by decide) (Nat.le_of_ble_eq_true rfl) (Nat.le_of_ble_eq_true rfl) (Nat.le_of_ble_eq_true rfl) (fun q1 => ?_)
  refine gk_putF (ty := (.array .int)) (ws' := ((q1, .inl (E.2.2.1, 10, .inl (fun _ => 0))) :: ((h0, .inr (0, [.ref q1, .null, .null, .null, .int 0])) :: []))) dX0_init_9 1 rfl rfl inX0 tyX0 tyX0_ok nmX0 0 (by decide) tb_136 rfl rfl (by decide +kernel) rfl rfl (Nat.le_of_ble_eq_true rfl) rfl ?_
  refine gk_aload_n dX0_init_12 rfl rfl ?_
  refine gk_bipush (v := 10) dX0_init_13 (by decide) ?_
  refine gk_newI (N' := 10) dX0_init_15 (by decide) (by decide) (Nat.le_of_ble_eq_true rfl) (Nat.le_of_ble_eq_true rfl) (Nat.le_of_ble_eq_true rfl) (fun q2 => ?_)
  refine gk_putF (ty := (.array .int)) (ws' := ((q2, .inl (E.2.2.1, 10, .inl (fun _ => 0))) :: ((q1, .inl (E.2.2.1, 10, .inl (fun _ => 0))) :: ((h0, .inr (0, [.ref q1, .ref q2, .null, .null, .int 0])) :: [])))) dX0_init_17 2 rfl rfl inX0 tyX0 tyX0_ok nmX0 1 (by decide) tb_137 rfl rfl (by decide +kernel) rfl rfl (Nat.le_of_ble_eq_true rfl) rfl ?_
  refine gk_aload_n dX0_init_20 rfl rfl ?_
  refine gk_bipush (v := 10) dX0_init_21 (by decide) ?_
  refine gk_newI (N' := 10) dX0_init_23 (by decide) (by decide) (Nat.le_of_ble_eq_true rfl) (Nat.le_of_ble_eq_true rfl) (Nat.le_of_ble_eq_true rfl) (fun q3 => ?_)
  refine gk_putF (ty := (.array .int)) (ws' := ((q3, .inl (E.2.2.1, 10, .inl (fun _ => 0))) :: ((q2, .inl (E.2.2.1, 10, .inl (fun _ => 0))) :: ((q1, .inl (E.2.2.1, 10, .inl (fun _ => 0))) :: ((h0, .inr (0, [.ref q1, .ref q2, .ref q3, .null, .int 0])) :: []))))) dX0_init_25 3 rfl rfl inX0 tyX0 tyX0_ok nmX0 2 (by decide) tb_138 rfl rfl (by decide +kernel) rfl rfl (Nat.le_of_ble_eq_true rfl) rfl ?_
  refine gk_aload_n dX0_init_28 rfl rfl ?_
  refine gk_bipush (v := 60) dX0_init_29 (by decide) ?_
  refine gk_newI (N' := 60) dX0_init_31 (by decide) (by decide) (Nat.le_of_ble_eq_true rfl) (Nat.le_of_ble_eq_true rfl) (Nat.le_of_ble_eq_true rfl) (fun q4 => ?_)
  refine gk_putF (ty := (.array .int)) (ws' := ((q4, .inl (E.2.2.1, 60, .inl (fun _ => 0))) :: ((q3, .inl (E.2.2.1, 10, .inl (fun _ => 0))) :: ((q2, .inl (E.2.2.1, 10, .inl (fun _ => 0))) :: ((q1, .inl (E.2.2.1, 10, .inl (fun _ => 0))) :: ((h0, .inr (0, [.ref q1, .ref q2, .ref q3, .ref q4, .int 0])) :: [])))))) dX0_init_33 4 rfl rfl inX0 tyX0 tyX0_ok nmX0 3 (by decide) tb_139 rfl rfl (by decide +kernel) rfl rfl (Nat.le_of_ble_eq_true rfl) rfl ?_
  refine gk_aload_n dX0_init_36 rfl rfl ?_
  refine gk_iconst (v := 0) dX0_init_37 (by decide) ?_
  refine gk_putI (ws' := ((q4, .inl (E.2.2.1, 60, .inl (fun _ => 0))) :: ((q3, .inl (E.2.2.1, 10, .inl (fun _ => 0))) :: ((q2, .inl (E.2.2.1, 10, .inl (fun _ => 0))) :: ((q1, .inl (E.2.2.1, 10, .inl (fun _ => 0))) :: ((h0, .inr (0, [.ref q1, .ref q2, .ref q3, .ref q4, .int 0])) :: [])))))) dX0_init_38 4 rfl rfl inX0 tyX0 tyX0_ok nmX0 4 (by decide) tb_140 rfl rfl (by decide +kernel) (Nat.le_of_ble_eq_true rfl) rfl ?_
  exact gk_vret dX0_init_41 [4, 3, 2, 1, 0] (by rfl) (by decide +kernel) ⟨q1, q2, q3, q4, rfl⟩
def PX5 (E : En) (h0 : Nat) (ws : va_W) : Prop := ∃ x1 x2 : Nat, ws = [(h0, .inr (5, [.ref x1, .ref x2, .int 0])), (x1, .inl (E.2.2.1, 30, .inl (fun _ => 0))), (x2, .inl (E.2.2.1, 30, .inl (fun _ => 0)))]
theorem ci_X5 : CI yX5_init cX5_init 1 := ⟨tb_117, tb_118, tb_60, ⟨by decide +kernel, by decide +kernel, by decide +kernel⟩, rfl⟩
set_option maxHeartbeats 4000000 in
set_option maxRecDepth 100000 in
theorem n_X5 {l : Launch} {E : En} : Nt l E yX5_init cX5_init 1 1 2 60 5 [.null, .null, .int 0] (PX5 E) := by
  refine Nt.of (fun h0 => [some (.ref h0)]) (plainFor_of_name pn_X5) rfl rfl (by decide) (fun _ => rfl) ?_
  intro h0 sz
  refine gk_aload_n dX5_init_0 rfl rfl ?_
  refine gk_objInit dX5_init_1 tb_119 (Nat.le_of_ble_eq_true rfl) (Nat.le_of_ble_eq_true rfl) ?_
  refine gk_aload_n dX5_init_4 rfl rfl ?_
  refine gk_bipush (v := 30) dX5_init_5 (by decide) ?_
  refine gk_newI (N' := 30) dX5_init_7 (by decide) (by decide) (Nat.le_of_ble_eq_true rfl) (Nat.le_of_ble_eq_true rfl) (Nat.le_of_ble_eq_true rfl) (fun q1 => ?_)
  refine gk_putF (ty := (.array .int)) (ws' := ((q1, .inl (E.2.2.1, 30, .inl (fun _ => 0))) :: ((h0, .inr (5, [.ref q1, .null, .int 0])) :: []))) dX5_init_9 1 rfl rfl inX5 tyX5 tyX5_ok nmX5 0 (by decide) tb_120 rfl rfl (by decide +kernel) rfl rfl (Nat.le_of_ble_eq_true rfl) rfl ?_
  refine gk_aload_n dX5_init_12 rfl rfl ?_
  refine gk_bipush (v := 30) dX5_init_13 (by decide) ?_
  refine gk_newI (N' := 30) dX5_init_15 (by decide) (by decide) (Nat.le_of_ble_eq_true rfl) (Nat.le_of_ble_eq_true rfl) (Nat.le_of_ble_eq_true rfl) (fun q2 => ?_)
  refine gk_putF (ty := (.array .int)) (ws' := ((q2, .inl (E.2.2.1, 30, .inl (fun _ => 0))) :: ((q1, .inl (E.2.2.1, 30, .inl (fun _ => 0))) :: ((h0, .inr (5, [.ref q1, .ref q2, .int 0])) :: [])))) dX5_init_17 2 rfl rfl inX5 tyX5 tyX5_ok nmX5 1 (by decide) tb_121 rfl rfl (by decide +kernel) rfl rfl (Nat.le_of_ble_eq_true rfl) rfl ?_
  refine gk_aload_n dX5_init_20 rfl rfl ?_
  refine gk_iconst (v := 0) dX5_init_21 (by decide) ?_
  refine gk_putI (ws' := ((q2, .inl (E.2.2.1, 30, .inl (fun _ => 0))) :: ((q1, .inl (E.2.2.1, 30, .inl (fun _ => 0))) :: ((h0, .inr (5, [.ref q1, .ref q2, .int 0])) :: [])))) dX5_init_22 2 rfl rfl inX5 tyX5 tyX5_ok nmX5 2 (by decide) tb_122 rfl rfl (by decide +kernel) (Nat.le_of_ble_eq_true rfl) rfl ?_
  exact gk_vret dX5_init_25 [2, 1, 0] (by rfl) (by decide +kernel) ⟨q1, q2, rfl⟩
def PX6 (E : En) (h0 : Nat) (ws : va_W) : Prop := ∃ x1 x2 x3 x4 x5 x6 : Nat, ws = [(h0, .inr (6, [.ref x1, .ref x2, .ref x3, .ref x4, .ref x5, .ref x6, .int 0])), (x1, .inl (E.2.2.1, 40, .inl (fun _ => 0))), (x2, .inl (E.2.2.1, 40, .inl (fun _ => 0))), (x3, .inl (E.2.2.1, 40, .inl (fun _ => 0))), (x4, .inl (E.2.2.1, 120, .inl (fun _ => 0))), (x5, .inl (E.2.2.1, 40, .inl (fun _ => 0))), (x6, .inl (E.2.2.1, 40, .inl (fun _ => 0)))]
theorem ci_X6 : CI yX6_init cX6_init 1 := ⟨tb_88, tb_89, tb_59, ⟨by decide +kernel, by decide +kernel, by decide +kernel⟩, rfl⟩
set_option maxHeartbeats 4000000 in
set_option maxRecDepth 100000 in
theorem n_X6 {l : Launch} {E : En} : Nt l E yX6_init cX6_init 1 1 6 320 6 [.null, .null, .null, .null, .null, .null, .int 0] (PX6 E) := by
  refine Nt.of (fun h0 => [some (.ref h0)]) (plainFor_of_name pn_X6) rfl rfl (by decide) (fun _ => rfl) ?_
  intro h0 sz
  refine gk_aload_n dX6_init_0 rfl rfl ?_
  refine gk_objInit dX6_init_1 tb_90 (Nat.le_of_ble_eq_true rfl) (Nat.le_of_ble_eq_true rfl) ?_
  refine gk_aload_n dX6_init_4 rfl rfl ?_
  refine gk_bipush (v := 40) dX6_init_5 (by decide) ?_
  refine gk_newI (N' := 40) dX6_init_7 (by decide) (by decide) (Nat.le_of_ble_eq_true rfl) (Nat.le_of_ble_eq_true rfl) (Nat.le_of_ble_eq_true rfl) (fun q1 => ?_)
  refine gk_putF (ty := (.array .int)) (ws' := ((q1, .inl (E.2.2.1, 40, .inl (fun _ => 0))) :: ((h0, .inr (6, [.ref q1, .null, .null, .null, .null, .null, .int 0])) :: []))) dX6_init_9 1 rfl rfl inX6 tyX6 tyX6_ok nmX6 0 (by decide) tb_91 rfl rfl (by decide +kernel) rfl rfl (Nat.le_of_ble_eq_true rfl) rfl ?_
  refine gk_aload_n dX6_init_12 rfl rfl ?_
  refine gk_bipush (v := 40) dX6_init_13 (by decide) ?_
  refine gk_newI (N' := 40) dX6_init_15 (by decide) (by decide) (Nat.le_of_ble_eq_true rfl) (Nat.le_of_ble_eq_true rfl) (Nat.le_of_ble_eq_true rfl) (fun q2 => ?_)
  refine gk_putF (ty := (.array .int)) (ws' := ((q2, .inl (E.2.2.1, 40, .inl (fun _ => 0))) :: ((q1, .inl (E.2.2.1, 40, .inl (fun _ => 0))) :: ((h0, .inr (6, [.ref q1, .ref q2, .null, .null, .null, .null, .int 0])) :: [])))) dX6_init_17 2 rfl rfl inX6 tyX6 tyX6_ok nmX6 1 (by decide) tb_92 rfl rfl (by decide +kernel) rfl rfl (Nat.le_of_ble_eq_true rfl) rfl ?_
  refine gk_aload_n dX6_init_20 rfl rfl ?_
  refine gk_bipush (v := 40) dX6_init_21 (by decide) ?_
  refine gk_newI (N' := 40) dX6_init_23 (by decide) (by decide) (Nat.le_of_ble_eq_true rfl) (Nat.le_of_ble_eq_true rfl) (Nat.le_of_ble_eq_true rfl) (fun q3 => ?_)
  refine gk_putF (ty := (.array .int)) (ws' := ((q3, .inl (E.2.2.1, 40, .inl (fun _ => 0))) :: ((q2, .inl (E.2.2.1, 40, .inl (fun _ => 0))) :: ((q1, .inl (E.2.2.1, 40, .inl (fun _ => 0))) :: ((h0, .inr (6, [.ref q1, .ref q2, .ref q3, .null, .null, .null, .int 0])) :: []))))) dX6_init_25 3 rfl rfl inX6 tyX6 tyX6_ok nmX6 2 (by decide) tb_93 rfl rfl (by decide +kernel) rfl rfl (Nat.le_of_ble_eq_true rfl) rfl ?_
  refine gk_aload_n dX6_init_28 rfl rfl ?_
  refine gk_bipush (v := 120) dX6_init_29 (by decide) ?_
  refine gk_newI (N' := 120) dX6_init_31 (by decide) (by decide) (Nat.le_of_ble_eq_true rfl) (Nat.le_of_ble_eq_true rfl) (Nat.le_of_ble_eq_true rfl) (fun q4 => ?_)
  refine gk_putF (ty := (.array .int)) (ws' := ((q4, .inl (E.2.2.1, 120, .inl (fun _ => 0))) :: ((q3, .inl (E.2.2.1, 40, .inl (fun _ => 0))) :: ((q2, .inl (E.2.2.1, 40, .inl (fun _ => 0))) :: ((q1, .inl (E.2.2.1, 40, .inl (fun _ => 0))) :: ((h0, .inr (6, [.ref q1, .ref q2, .ref q3, .ref q4, .null, .null, .int 0])) :: [])))))) dX6_init_33 4 rfl rfl inX6 tyX6 tyX6_ok nmX6 3 (by decide) tb_94 rfl rfl (by decide +kernel) rfl rfl (Nat.le_of_ble_eq_true rfl) rfl ?_
  refine gk_aload_n dX6_init_36 rfl rfl ?_
  refine gk_bipush (v := 40) dX6_init_37 (by decide) ?_
  refine gk_newI (N' := 40) dX6_init_39 (by decide) (by decide) (Nat.le_of_ble_eq_true rfl) (Nat.le_of_ble_eq_true rfl) (Nat.le_of_ble_eq_true rfl) (fun q5 => ?_)
  refine gk_putF (ty := (.array .int)) (ws' := ((q5, .inl (E.2.2.1, 40, .inl (fun _ => 0))) :: ((q4, .inl (E.2.2.1, 120, .inl (fun _ => 0))) :: ((q3, .inl (E.2.2.1, 40, .inl (fun _ => 0))) :: ((q2, .inl (E.2.2.1, 40, .inl (fun _ => 0))) :: ((q1, .inl (E.2.2.1, 40, .inl (fun _ => 0))) :: ((h0, .inr (6, [.ref q1, .ref q2, .ref q3, .ref q4, .ref q5, .null, .int 0])) :: []))))))) dX6_init_41 5 rfl rfl inX6 tyX6 tyX6_ok nmX6 4 (by decide) tb_95 rfl rfl (by decide +kernel) rfl rfl (Nat.le_of_ble_eq_true rfl) rfl ?_
  refine gk_aload_n dX6_init_44 rfl rfl ?_
  refine gk_bipush (v := 40) dX6_init_45 (by decide) ?_
  refine gk_newI (N' := 40) dX6_init_47 (by decide) (by decide) (Nat.le_of_ble_eq_true rfl) (Nat.le_of_ble_eq_true rfl) (Nat.le_of_ble_eq_true rfl) (fun q6 => ?_)
  refine gk_putF (ty := (.array .int)) (ws' := ((q6, .inl (E.2.2.1, 40, .inl (fun _ => 0))) :: ((q5, .inl (E.2.2.1, 40, .inl (fun _ => 0))) :: ((q4, .inl (E.2.2.1, 120, .inl (fun _ => 0))) :: ((q3, .inl (E.2.2.1, 40, .inl (fun _ => 0))) :: ((q2, .inl (E.2.2.1, 40, .inl (fun _ => 0))) :: ((q1, .inl (E.2.2.1, 40, .inl (fun _ => 0))) :: ((h0, .inr (6, [.ref q1, .ref q2, .ref q3, .ref q4, .ref q5, .ref q6, .int 0])) :: [])))))))) dX6_init_49 6 rfl rfl inX6 tyX6 tyX6_ok nmX6 5 (by decide) tb_96 rfl rfl (by decide +kernel) rfl rfl (Nat.le_of_ble_eq_true rfl) rfl ?_
  refine gk_aload_n dX6_init_52 rfl rfl ?_
  refine gk_iconst (v := 0) dX6_init_53 (by decide) ?_
  refine gk_putI (ws' := ((q6, .inl (E.2.2.1, 40, .inl (fun _ => 0))) :: ((q5, .inl (E.2.2.1, 40, .inl (fun _ => 0))) :: ((q4, .inl (E.2.2.1, 120, .inl (fun _ => 0))) :: ((q3, .inl (E.2.2.1, 40, .inl (fun _ => 0))) :: ((q2, .inl (E.2.2.1, 40, .inl (fun _ => 0))) :: ((q1, .inl (E.2.2.1, 40, .inl (fun _ => 0))) :: ((h0, .inr (6, [.ref q1, .ref q2, .ref q3, .ref q4, .ref q5, .ref q6, .int 0])) :: [])))))))) dX6_init_54 6 rfl rfl inX6 tyX6 tyX6_ok nmX6 6 (by decide) tb_97 rfl rfl (by decide +kernel) (Nat.le_of_ble_eq_true rfl) rfl ?_
  exact gk_vret dX6_init_57 [6, 5, 4, 3, 2, 1, 0] (by rfl) (by decide +kernel) ⟨q1, q2, q3, q4, q5, q6, rfl⟩
def PX8 (E : En) (h0 : Nat) (ws : va_W) : Prop := ∃ x1 x2 : Nat, ws = [(h0, .inr (8, [.ref x1, .ref x2, .int 0])), (x1, .inl (E.2.2.1, 30, .inl (fun _ => 0))), (x2, .inl (E.2.2.1, 30, .inl (fun _ => 0)))]
theorem ci_X8 : CI yX8_init cX8_init 1 := ⟨tb_246, tb_247, tb_65, ⟨by decide +kernel, by decide +kernel, by decide +kernel⟩, rfl⟩
set_option maxHeartbeats 4000000 in
set_option maxRecDepth 100000 in
theorem n_X8 {l : Launch} {E : En} : Nt l E yX8_init cX8_init 1 1 2 60 8 [.null, .null, .int 0] (PX8 E) := by
  refine Nt.of (fun h0 => [some (.ref h0)]) (plainFor_of_name pn_X8) rfl rfl (by decide) (fun _ => rfl) ?_
  intro h0 sz
  refine gk_aload_n dX8_init_0 rfl rfl ?_
  refine gk_objInit dX8_init_1 tb_248 (Nat.le_of_ble_eq_true rfl) (Nat.le_of_ble_eq_true rfl) ?_
  refine gk_aload_n dX8_init_4 rfl rfl ?_
  refine gk_bipush (v := 30) dX8_init_5 (by decide) ?_
  refine gk_newI (N' := 30) dX8_init_7 (by decide) (by decide) (Nat.le_of_ble_eq_true rfl) (Nat.le_of_ble_eq_true rfl) (Nat.le_of_ble_eq_true rfl) (fun q1 => ?_)
  refine gk_putF (ty := (.array .int)) (ws' := ((q1, .inl (E.2.2.1, 30, .inl (fun _ => 0))) :: ((h0, .inr (8, [.ref q1, .null, .int 0])) :: []))) dX8_init_9 1 rfl rfl inX8 tyX8 tyX8_ok nmX8 0 (by decide) tb_249 rfl rfl (by decide +kernel) rfl rfl (Nat.le_of_ble_eq_true rfl) rfl ?_
  refine gk_aload_n dX8_init_12 rfl rfl ?_
  refine gk_bipush (v := 30) dX8_init_13 (by decide) ?_
  refine gk_newI (N' := 30) dX8_init_15 (by decide) (by decide) (Nat.le_of_ble_eq_true rfl) (Nat.le_of_ble_eq_true rfl) (Nat.le_of_ble_eq_true rfl) (fun q2 => ?_)
  refine gk_putF (ty := (.array .int)) (ws' := ((q2, .inl (E.2.2.1, 30, .inl (fun _ => 0))) :: ((q1, .inl (E.2.2.1, 30, .inl (fun _ => 0))) :: ((h0, .inr (8, [.ref q1, .ref q2, .int 0])) :: [])))) dX8_init_17 2 rfl rfl inX8 tyX8 tyX8_ok nmX8 1 (by decide) tb_250 rfl rfl (by decide +kernel) rfl rfl (Nat.le_of_ble_eq_true rfl) rfl ?_
  refine gk_aload_n dX8_init_20 rfl rfl ?_
  refine gk_iconst (v := 0) dX8_init_21 (by decide) ?_
  refine gk_putI (ws' := ((q2, .inl (E.2.2.1, 30, .inl (fun _ => 0))) :: ((q1, .inl (E.2.2.1, 30, .inl (fun _ => 0))) :: ((h0, .inr (8, [.ref q1, .ref q2, .int 0])) :: [])))) dX8_init_22 2 rfl rfl inX8 tyX8 tyX8_ok nmX8 2 (by decide) tb_251 rfl rfl (by decide +kernel) (Nat.le_of_ble_eq_true rfl) rfl ?_
  exact gk_vret dX8_init_25 [2, 1, 0] (by rfl) (by decide +kernel) ⟨q1, q2, rfl⟩
def PX1 (E : En) (h0 : Nat) (ws : va_W) : Prop := ∃ x1 x2 : Nat, ws = [(h0, .inr (1, [.ref x1, .ref x2, .int 0, .int 1000000])), (x1, .inl (E.2.2.1, 64, .inl (fun _ => 0))), (x2, .inl (E.2.2.1, 64, .inl (fun _ => 0)))]
theorem ci_X1 : CI yX1_init cX1_init 1 := ⟨tb_281, tb_282, tb_66, ⟨by decide +kernel, by decide +kernel, by decide +kernel⟩, rfl⟩
set_option maxHeartbeats 4000000 in
set_option maxRecDepth 100000 in
theorem n_X1 {l : Launch} {E : En} : Nt l E yX1_init cX1_init 1 1 2 128 1 [.null, .null, .int 0, .int 0] (PX1 E) := by
  refine Nt.of (fun h0 => [some (.ref h0)]) (plainFor_of_name pn_X1) rfl rfl (by decide) (fun _ => rfl) ?_
  intro h0 sz
  refine gk_aload_n dX1_init_0 rfl rfl ?_
  refine gk_objInit dX1_init_1 tb_283 (Nat.le_of_ble_eq_true rfl) (Nat.le_of_ble_eq_true rfl) ?_
  refine gk_aload_n dX1_init_4 rfl rfl ?_
  refine gk_bipush (v := 64) dX1_init_5 (by decide) ?_
  refine gk_newI (N' := 64) dX1_init_7 (by decide) (by decide) (Nat.le_of_ble_eq_true rfl) (Nat.le_of_ble_eq_true rfl) (Nat.le_of_ble_eq_true rfl) (fun q1 => ?_)
  refine gk_putF (ty := (.array .int)) (ws' := ((q1, .inl (E.2.2.1, 64, .inl (fun _ => 0))) :: ((h0, .inr (1, [.ref q1, .null, .int 0, .int 0])) :: []))) dX1_init_9 1 rfl rfl inX1 tyX1 tyX1_ok nmX1 0 (by decide) tb_285 rfl rfl (by decide +kernel) rfl rfl (Nat.le_of_ble_eq_true rfl) rfl ?_
  refine gk_aload_n dX1_init_12 rfl rfl ?_
  refine gk_bipush (v := 64) dX1_init_13 (by decide) ?_
  refine gk_newI (N' := 64) dX1_init_15 (by decide) (by decide) (Nat.le_of_ble_eq_true rfl) (Nat.le_of_ble_eq_true rfl) (Nat.le_of_ble_eq_true rfl) (fun q2 => ?_)
  refine gk_putF (ty := (.array .int)) (ws' := ((q2, .inl (E.2.2.1, 64, .inl (fun _ => 0))) :: ((q1, .inl (E.2.2.1, 64, .inl (fun _ => 0))) :: ((h0, .inr (1, [.ref q1, .ref q2, .int 0, .int 0])) :: [])))) dX1_init_17 2 rfl rfl inX1 tyX1 tyX1_ok nmX1 1 (by decide) tb_286 rfl rfl (by decide +kernel) rfl rfl (Nat.le_of_ble_eq_true rfl) rfl ?_
  refine gk_aload_n dX1_init_20 rfl rfl ?_
  refine gk_iconst (v := 0) dX1_init_21 (by decide) ?_
  refine gk_putI (ws' := ((q2, .inl (E.2.2.1, 64, .inl (fun _ => 0))) :: ((q1, .inl (E.2.2.1, 64, .inl (fun _ => 0))) :: ((h0, .inr (1, [.ref q1, .ref q2, .int 0, .int 0])) :: [])))) dX1_init_22 2 rfl rfl inX1 tyX1 tyX1_ok nmX1 2 (by decide) tb_287 rfl rfl (by decide +kernel) (Nat.le_of_ble_eq_true rfl) rfl ?_
  refine gk_aload_n dX1_init_25 rfl rfl ?_
  refine gk_ldc dX1_init_26 tb_284 ?_
  refine gk_putI (ws' := ((q2, .inl (E.2.2.1, 64, .inl (fun _ => 0))) :: ((q1, .inl (E.2.2.1, 64, .inl (fun _ => 0))) :: ((h0, .inr (1, [.ref q1, .ref q2, .int 0, .int 1000000])) :: [])))) dX1_init_28 2 rfl rfl inX1 tyX1 tyX1_ok nmX1 3 (by decide) tb_288 rfl rfl (by decide +kernel) (Nat.le_of_ble_eq_true rfl) rfl ?_
  exact gk_vret dX1_init_31 [2, 1, 0] (by rfl) (by decide +kernel) ⟨q1, q2, rfl⟩
def PX7 (E : En) (h0 : Nat) (ws : va_W) : Prop := ∃ x1 x2 x3 x4 x5 x6 x7 : Nat, ws = [(h0, .inr (7, [.ref x1, .ref x2, .ref x3, .ref x4, .ref x5, .ref x6, .ref x7, .int 0, .int 0, .int 0])), (x1, .inl (E.2.2.2.1, 80, .inl (fun _ => 0))), (x2, .inl (E.2.2.2.1, 27, .inl (fun _ => 0))), (x3, .inl (E.2.2.1, 27, .inl (fun _ => 0))), (x4, .inl (E.2.2.1, 27, .inl (fun _ => 0))), (x5, .inl (E.2.2.1, 27, .inl (fun _ => 0))), (x6, .inl (E.2.2.1, 27, .inl (fun _ => 0))), (x7, .inl (E.2.2.1, 27, .inl (fun _ => 0)))]
theorem ci_X7 : CI yX7_init cX7_init 1 := ⟨tb_202, tb_203, tb_63, ⟨by decide +kernel, by decide +kernel, by decide +kernel⟩, rfl⟩
set_option maxHeartbeats 4000000 in
set_option maxRecDepth 100000 in
theorem n_X7 {l : Launch} {E : En} : Nt l E yX7_init cX7_init 1 1 7 242 7 [.null, .null, .null, .null, .null, .null, .null, .int 0, .int 0, .int 0] (PX7 E) := by
  refine Nt.of (fun h0 => [some (.ref h0)]) (plainFor_of_name pn_X7) rfl rfl (by decide) (fun _ => rfl) ?_
  intro h0 sz
  refine gk_aload_n dX7_init_0 rfl rfl ?_
  refine gk_objInit dX7_init_1 tb_204 (Nat.le_of_ble_eq_true rfl) (Nat.le_of_ble_eq_true rfl) ?_
  refine gk_aload_n dX7_init_4 rfl rfl ?_
  refine gk_bipush (v := 80) dX7_init_5 (by decide) ?_
  refine gk_newC (N' := 80) dX7_init_7 (by decide) (by decide) (Nat.le_of_ble_eq_true rfl) (Nat.le_of_ble_eq_true rfl) (Nat.le_of_ble_eq_true rfl) (fun q1 => ?_)
  refine gk_putF (ty := (.array .char)) (ws' := ((q1, .inl (E.2.2.2.1, 80, .inl (fun _ => 0))) :: ((h0, .inr (7, [.ref q1, .null, .null, .null, .null, .null, .null, .int 0, .int 0, .int 0])) :: []))) dX7_init_9 1 rfl rfl inX7 tyX7 tyX7_ok nmX7 0 (by decide) tb_205 rfl rfl (by decide +kernel) rfl rfl (Nat.le_of_ble_eq_true rfl) rfl ?_
  refine gk_aload_n dX7_init_12 rfl rfl ?_
  refine gk_bipush (v := 27) dX7_init_13 (by decide) ?_
  refine gk_newC (N' := 27) dX7_init_15 (by decide) (by decide) (Nat.le_of_ble_eq_true rfl) (Nat.le_of_ble_eq_true rfl) (Nat.le_of_ble_eq_true rfl) (fun q2 => ?_)
  refine gk_putF (ty := (.array .char)) (ws' := ((q2, .inl (E.2.2.2.1, 27, .inl (fun _ => 0))) :: ((q1, .inl (E.2.2.2.1, 80, .inl (fun _ => 0))) :: ((h0, .inr (7, [.ref q1, .ref q2, .null, .null, .null, .null, .null, .int 0, .int 0, .int 0])) :: [])))) dX7_init_17 2 rfl rfl inX7 tyX7 tyX7_ok nmX7 1 (by decide) tb_206 rfl rfl (by decide +kernel) rfl rfl (Nat.le_of_ble_eq_true rfl) rfl ?_
  refine gk_aload_n dX7_init_20 rfl rfl ?_
  refine gk_bipush (v := 27) dX7_init_21 (by decide) ?_
  refine gk_newI (N' := 27) dX7_init_23 (by decide) (by decide) (Nat.le_of_ble_eq_true rfl) (Nat.le_of_ble_eq_true rfl) (Nat.le_of_ble_eq_true rfl) (fun q3 => ?_)
  refine gk_putF (ty := (.array .int)) (ws' := ((q3, .inl (E.2.2.1, 27, .inl (fun _ => 0))) :: ((q2, .inl (E.2.2.2.1, 27, .inl (fun _ => 0))) :: ((q1, .inl (E.2.2.2.1, 80, .inl (fun _ => 0))) :: ((h0, .inr (7, [.ref q1, .ref q2, .ref q3, .null, .null, .null, .null, .int 0, .int 0, .int 0])) :: []))))) dX7_init_25 3 rfl rfl inX7 tyX7 tyX7_ok nmX7 2 (by decide) tb_207 rfl rfl (by decide +kernel) rfl rfl (Nat.le_of_ble_eq_true rfl) rfl ?_
  refine gk_aload_n dX7_init_28 rfl rfl ?_
  refine gk_bipush (v := 27) dX7_init_29 (by decide) ?_
  refine gk_newI (N' := 27) dX7_init_31 (by decide) (by decide) (Nat.le_of_ble_eq_true rfl) (Nat.le_of_ble_eq_true rfl) (Nat.le_of_ble_eq_true rfl) (fun q4 => ?_)
  refine gk_putF (ty := (.array .int)) (ws' := ((q4, .inl (E.2.2.1, 27, .inl (fun _ => 0))) :: ((q3, .inl (E.2.2.1, 27, .inl (fun _ => 0))) :: ((q2, .inl (E.2.2.2.1, 27, .inl (fun _ => 0))) :: ((q1, .inl (E.2.2.2.1, 80, .inl (fun _ => 0))) :: ((h0, .inr (7, [.ref q1, .ref q2, .ref q3, .ref q4, .null, .null, .null, .int 0, .int 0, .int 0])) :: [])))))) dX7_init_33 4 rfl rfl inX7 tyX7 tyX7_ok nmX7 3 (by decide) tb_208 rfl rfl (by decide +kernel) rfl rfl (Nat.le_of_ble_eq_true rfl) rfl ?_
  refine gk_aload_n dX7_init_36 rfl rfl ?_
  refine gk_bipush (v := 27) dX7_init_37 (by decide) ?_
  refine gk_newI (N' := 27) dX7_init_39 (by decide) (by decide) (Nat.le_of_ble_eq_true rfl) (Nat.le_of_ble_eq_true rfl) (Nat.le_of_ble_eq_true rfl) (fun q5 => ?_)
  refine gk_putF (ty := (.array .int)) (ws' := ((q5, .inl (E.2.2.1, 27, .inl (fun _ => 0))) :: ((q4, .inl (E.2.2.1, 27, .inl (fun _ => 0))) :: ((q3, .inl (E.2.2.1, 27, .inl (fun _ => 0))) :: ((q2, .inl (E.2.2.2.1, 27, .inl (fun _ => 0))) :: ((q1, .inl (E.2.2.2.1, 80, .inl (fun _ => 0))) :: ((h0, .inr (7, [.ref q1, .ref q2, .ref q3, .ref q4, .ref q5, .null, .null, .int 0, .int 0, .int 0])) :: []))))))) dX7_init_41 5 rfl rfl inX7 tyX7 tyX7_ok nmX7 4 (by decide) tb_209 rfl rfl (by decide +kernel) rfl rfl (Nat.le_of_ble_eq_true rfl) rfl ?_
  refine gk_aload_n dX7_init_44 rfl rfl ?_
  refine gk_bipush (v := 27) dX7_init_45 (by decide) ?_
  refine gk_newI (N' := 27) dX7_init_47 (by decide) (by decide) (Nat.le_of_ble_eq_true rfl) (Nat.le_of_ble_eq_true rfl) (Nat.le_of_ble_eq_true rfl) (fun q6 => ?_)
  refine gk_putF (ty := (.array .int)) (ws' := ((q6, .inl (E.2.2.1, 27, .inl (fun _ => 0))) :: ((q5, .inl (E.2.2.1, 27, .inl (fun _ => 0))) :: ((q4, .inl (E.2.2.1, 27, .inl (fun _ => 0))) :: ((q3, .inl (E.2.2.1, 27, .inl (fun _ => 0))) :: ((q2, .inl (E.2.2.2.1, 27, .inl (fun _ => 0))) :: ((q1, .inl (E.2.2.2.1, 80, .inl (fun _ => 0))) :: ((h0, .inr (7, [.ref q1, .ref q2, .ref q3, .ref q4, .ref q5, .ref q6, .null, .int 0, .int 0, .int 0])) :: [])))))))) dX7_init_49 6 rfl rfl inX7 tyX7 tyX7_ok nmX7 5 (by decide) tb_210 rfl rfl (by decide +kernel) rfl rfl (Nat.le_of_ble_eq_true rfl) rfl ?_
  refine gk_aload_n dX7_init_52 rfl rfl ?_
  refine gk_bipush (v := 27) dX7_init_53 (by decide) ?_
  refine gk_newI (N' := 27) dX7_init_55 (by decide) (by decide) (Nat.le_of_ble_eq_true rfl) (Nat.le_of_ble_eq_true rfl) (Nat.le_of_ble_eq_true rfl) (fun q7 => ?_)
  refine gk_putF (ty := (.array .int)) (ws' := ((q7, .inl (E.2.2.1, 27, .inl (fun _ => 0))) :: ((q6, .inl (E.2.2.1, 27, .inl (fun _ => 0))) :: ((q5, .inl (E.2.2.1, 27, .inl (fun _ => 0))) :: ((q4, .inl (E.2.2.1, 27, .inl (fun _ => 0))) :: ((q3, .inl (E.2.2.1, 27, .inl (fun _ => 0))) :: ((q2, .inl (E.2.2.2.1, 27, .inl (fun _ => 0))) :: ((q1, .inl (E.2.2.2.1, 80, .inl (fun _ => 0))) :: ((h0, .inr (7, [.ref q1, .ref q2, .ref q3, .ref q4, .ref q5, .ref q6, .ref q7, .int 0, .int 0, .int 0])) :: []))))))))) dX7_init_57 7 rfl rfl inX7 tyX7 tyX7_ok nmX7 6 (by decide) tb_211 rfl rfl (by decide +kernel) rfl rfl (Nat.le_of_ble_eq_true rfl) rfl ?_
  refine gk_aload_n dX7_init_60 rfl rfl ?_
  refine gk_iconst (v := 0) dX7_init_61 (by decide) ?_
  refine gk_putI (ws' := ((q7, .inl (E.2.2.1, 27, .inl (fun _ => 0))) :: ((q6, .inl (E.2.2.1, 27, .inl (fun _ => 0))) :: ((q5, .inl (E.2.2.1, 27, .inl (fun _ => 0))) :: ((q4, .inl (E.2.2.1, 27, .inl (fun _ => 0))) :: ((q3, .inl (E.2.2.1, 27, .inl (fun _ => 0))) :: ((q2, .inl (E.2.2.2.1, 27, .inl (fun _ => 0))) :: ((q1, .inl (E.2.2.2.1, 80, .inl (fun _ => 0))) :: ((h0, .inr (7, [.ref q1, .ref q2, .ref q3, .ref q4, .ref q5, .ref q6, .ref q7, .int 0, .int 0, .int 0])) :: []))))))))) dX7_init_62 7 rfl rfl inX7 tyX7 tyX7_ok nmX7 7 (by decide) tb_212 rfl rfl (by decide +kernel) (Nat.le_of_ble_eq_true rfl) rfl ?_
  refine gk_aload_n dX7_init_65 rfl rfl ?_
  refine gk_iconst (v := 0) dX7_init_66 (by decide) ?_
  refine gk_putI (ws' := ((q7, .inl (E.2.2.1, 27, .inl (fun _ => 0))) :: ((q6, .inl (E.2.2.1, 27, .inl (fun _ => 0))) :: ((q5, .inl (E.2.2.1, 27, .inl (fun _ => 0))) :: ((q4, .inl (E.2.2.1, 27, .inl (fun _ => 0))) :: ((q3, .inl (E.2.2.1, 27, .inl (fun _ => 0))) :: ((q2, .inl (E.2.2.2.1, 27, .inl (fun _ => 0))) :: ((q1, .inl (E.2.2.2.1, 80, .inl (fun _ => 0))) :: ((h0, .inr (7, [.ref q1, .ref q2, .ref q3, .ref q4, .ref q5, .ref q6, .ref q7, .int 0, .int 0, .int 0])) :: []))))))))) dX7_init_67 7 rfl rfl inX7 tyX7 tyX7_ok nmX7 8 (by decide) tb_213 rfl rfl (by decide +kernel) (Nat.le_of_ble_eq_true rfl) rfl ?_
  refine gk_aload_n dX7_init_70 rfl rfl ?_
  refine gk_iconst (v := 0) dX7_init_71 (by decide) ?_
  refine gk_putI (ws' := ((q7, .inl (E.2.2.1, 27, .inl (fun _ => 0))) :: ((q6, .inl (E.2.2.1, 27, .inl (fun _ => 0))) :: ((q5, .inl (E.2.2.1, 27, .inl (fun _ => 0))) :: ((q4, .inl (E.2.2.1, 27, .inl (fun _ => 0))) :: ((q3, .inl (E.2.2.1, 27, .inl (fun _ => 0))) :: ((q2, .inl (E.2.2.2.1, 27, .inl (fun _ => 0))) :: ((q1, .inl (E.2.2.2.1, 80, .inl (fun _ => 0))) :: ((h0, .inr (7, [.ref q1, .ref q2, .ref q3, .ref q4, .ref q5, .ref q6, .ref q7, .int 0, .int 0, .int 0])) :: []))))))))) dX7_init_72 7 rfl rfl inX7 tyX7 tyX7_ok nmX7 9 (by decide) tb_214 rfl rfl (by decide +kernel) (Nat.le_of_ble_eq_true rfl) rfl ?_
  exact gk_vret dX7_init_75 [7, 6, 5, 4, 3, 2, 1, 0] (by rfl) (by decide +kernel) ⟨q1, q2, q3, q4, q5, q6, q7, rfl⟩
def PX10 (E : En) (h0 : Nat) (ws : va_W) : Prop := ∃ x1 x2 x3 x4 x5 x6 x7 x8 x9 x10 x11 x12 x13 x14 x15 x16 : Nat, ws = [(h0, .inr (10, [.ref x1, .ref x2, .ref x3, .int 0, .ref x4, .int 0, .ref x5, .ref x6, .ref x7, .ref x8, .ref x9, .ref x10, .int 0, .ref x11, .ref x12, .int 0, .ref x13, .int 0, .ref x14, .int 0, .int 0, .int 0, .ref x15, .ref x16])), (x1, .inl (E.2.2.1, 640, .inl (upd (fun _ => 0) (Int32.toNatClampNeg 3) 5))), (x2, .inl (E.2.2.1, 640, .inl (fun _ => 0))), (x3, .inl (E.2.2.1, 3200, .inl (fun _ => 0))), (x4, .inl (E.2.2.1, 14, .inl (fun _ => 0))), (x5, .inl (E.2.2.1, 8, .inl (fun _ => 0))), (x6, .inl (E.2.2.1, 8, .inl (fun _ => 0))), (x7, .inl (E.2.2.1, 320, .inl (fun _ => 0))), (x8, .inl (E.2.2.1, 8, .inl (fun _ => 0))), (x9, .inl (E.2.2.1, 8, .inl (fun _ => 0))), (x10, .inl (E.2.2.1, 8, .inl (fun _ => 0))), (x11, .inl (E.2.2.1, 30, .inl (fun _ => 0))), (x12, .inl (E.2.2.1, 30, .inl (fun _ => 0))), (x13, .inl (E.2.2.1, 8, .inl (fun _ => 0))), (x14, .inl (E.2.2.1, 80, .inl (fun _ => 0))), (x15, .inl (E.2.2.1, 80, .inl (fun _ => 0))), (x16, .inl (E.2.2.1, 400, .inl (fun _ => 0)))]
theorem ci_X10 : CI yX10_init cX10_init 1 := ⟨tb_941, tb_942, tb_67, ⟨by decide +kernel, by decide +kernel, by decide +kernel⟩, rfl⟩
set_option maxHeartbeats 4000000 in
set_option maxRecDepth 100000 in
theorem n_X10 {l : Launch} {E : En} : Nt l E yX10_init cX10_init 1 1 16 5482 10 [.null, .null, .null, .int 0, .null, .int 0, .null, .null, .null, .null, .null, .null, .int 0, .null, .null, .int 0, .null, .int 0, .null, .int 0, .int 0, .int 0, .null, .null] (PX10 E) := by
  refine Nt.of (fun h0 => [some (.ref h0)]) (plainFor_of_name pn_X10) rfl rfl (by decide) (fun _ => rfl) ?_
  intro h0 sz
  refine gk_aload_n dX10_init_0 rfl rfl ?_
  refine gk_objInit dX10_init_1 tb_943 (Nat.le_of_ble_eq_true rfl) (Nat.le_of_ble_eq_true rfl) ?_
  refine gk_aload_n dX10_init_4 rfl rfl ?_
  refine gk_sipush (v := 640) dX10_init_5 (by decide) ?_
  refine gk_newI (N' := 640) dX10_init_8 (by decide) (by decide) (Nat.le_of_ble_eq_true rfl) (Nat.le_of_ble_eq_true rfl) (Nat.le_of_ble_eq_true rfl) (fun q1 => ?_)
  refine gk_putF (ty := (.array .int)) (ws' := ((q1, .inl (E.2.2.1, 640, .inl (fun _ => 0))) :: ((h0, .inr (10, [.ref q1, .null, .null, .int 0, .null, .int 0, .null, .null, .null, .null, .null, .null, .int 0, .null, .null, .int 0, .null, .int 0, .null, .int 0, .int 0, .int 0, .null, .null])) :: []))) dX10_init_10 1 rfl rfl inX10 tyX10 tyX10_ok nmX10 0 (by decide) tb_944 rfl rfl (by decide +kernel) rfl rfl (Nat.le_of_ble_eq_true rfl) rfl ?_
  refine gk_aload_n dX10_init_13 rfl rfl ?_
  refine gk_sipush (v := 640) dX10_init_14 (by decide) ?_
  refine gk_newI (N' := 640) dX10_init_17 (by decide) (by decide) (Nat.le_of_ble_eq_true rfl) (Nat.le_of_ble_eq_true rfl) (Nat.le_of_ble_eq_true rfl) (fun q2 => ?_)
  refine gk_putF (ty := (.array .int)) (ws' := ((q2, .inl (E.2.2.1, 640, .inl (fun _ => 0))) :: ((q1, .inl (E.2.2.1, 640, .inl (fun _ => 0))) :: ((h0, .inr (10, [.ref q1, .ref q2, .null, .int 0, .null, .int 0, .null, .null, .null, .null, .null, .null, .int 0, .null, .null, .int 0, .null, .int 0, .null, .int 0, .int 0, .int 0, .null, .null])) :: [])))) dX10_init_19 2 rfl rfl inX10 tyX10 tyX10_ok nmX10 1 (by decide) tb_945 rfl rfl (by decide +kernel) rfl rfl (Nat.le_of_ble_eq_true rfl) rfl ?_
  refine gk_aload_n dX10_init_22 rfl rfl ?_
  refine gk_sipush (v := 3200) dX10_init_23 (by decide) ?_
  refine gk_newI (N' := 3200) dX10_init_26 (by decide) (by decide) (Nat.le_of_ble_eq_true rfl) (Nat.le_of_ble_eq_true rfl) (Nat.le_of_ble_eq_true rfl) (fun q3 => ?_)
  refine gk_putF (ty := (.array .int)) (ws' := ((q3, .inl (E.2.2.1, 3200, .inl (fun _ => 0))) :: ((q2, .inl (E.2.2.1, 640, .inl (fun _ => 0))) :: ((q1, .inl (E.2.2.1, 640, .inl (fun _ => 0))) :: ((h0, .inr (10, [.ref q1, .ref q2, .ref q3, .int 0, .null, .int 0, .null, .null, .null, .null, .null, .null, .int 0, .null, .null, .int 0, .null, .int 0, .null, .int 0, .int 0, .int 0, .null, .null])) :: []))))) dX10_init_28 3 rfl rfl inX10 tyX10 tyX10_ok nmX10 2 (by decide) tb_946 rfl rfl (by decide +kernel) rfl rfl (Nat.le_of_ble_eq_true rfl) rfl ?_
  refine gk_aload_n dX10_init_31 rfl rfl ?_
  refine gk_bipush (v := 14) dX10_init_32 (by decide) ?_
  refine gk_newI (N' := 14) dX10_init_34 (by decide) (by decide) (Nat.le_of_ble_eq_true rfl) (Nat.le_of_ble_eq_true rfl) (Nat.le_of_ble_eq_true rfl) (fun q4 => ?_)
  refine gk_putF (ty := (.array .int)) (ws' := ((q4, .inl (E.2.2.1, 14, .inl (fun _ => 0))) :: ((q3, .inl (E.2.2.1, 3200, .inl (fun _ => 0))) :: ((q2, .inl (E.2.2.1, 640, .inl (fun _ => 0))) :: ((q1, .inl (E.2.2.1, 640, .inl (fun _ => 0))) :: ((h0, .inr (10, [.ref q1, .ref q2, .ref q3, .int 0, .ref q4, .int 0, .null, .null, .null, .null, .null, .null, .int 0, .null, .null, .int 0, .null, .int 0, .null, .int 0, .int 0, .int 0, .null, .null])) :: [])))))) dX10_init_36 4 rfl rfl inX10 tyX10 tyX10_ok nmX10 4 (by decide) tb_948 rfl rfl (by decide +kernel) rfl rfl (Nat.le_of_ble_eq_true rfl) rfl ?_
  refine gk_aload_n dX10_init_39 rfl rfl ?_
  refine gk_bipush (v := 8) dX10_init_40 (by decide) ?_
  refine gk_newI (N' := 8) dX10_init_42 (by decide) (by decide) (Nat.le_of_ble_eq_true rfl) (Nat.le_of_ble_eq_true rfl) (Nat.le_of_ble_eq_true rfl) (fun q5 => ?_)
  refine gk_putF (ty := (.array .int)) (ws' := ((q5, .inl (E.2.2.1, 8, .inl (fun _ => 0))) :: ((q4, .inl (E.2.2.1, 14, .inl (fun _ => 0))) :: ((q3, .inl (E.2.2.1, 3200, .inl (fun _ => 0))) :: ((q2, .inl (E.2.2.1, 640, .inl (fun _ => 0))) :: ((q1, .inl (E.2.2.1, 640, .inl (fun _ => 0))) :: ((h0, .inr (10, [.ref q1, .ref q2, .ref q3, .int 0, .ref q4, .int 0, .ref q5, .null, .null, .null, .null, .null, .int 0, .null, .null, .int 0, .null, .int 0, .null, .int 0, .int 0, .int 0, .null, .null])) :: []))))))) dX10_init_44 5 rfl rfl inX10 tyX10 tyX10_ok nmX10 6 (by decide) tb_950 rfl rfl (by decide +kernel) rfl rfl (Nat.le_of_ble_eq_true rfl) rfl ?_
  refine gk_aload_n dX10_init_47 rfl rfl ?_
  refine gk_bipush (v := 8) dX10_init_48 (by decide) ?_
  refine gk_newI (N' := 8) dX10_init_50 (by decide) (by decide) (Nat.le_of_ble_eq_true rfl) (Nat.le_of_ble_eq_true rfl) (Nat.le_of_ble_eq_true rfl) (fun q6 => ?_)
  refine gk_putF (ty := (.array .int)) (ws' := ((q6, .inl (E.2.2.1, 8, .inl (fun _ => 0))) :: ((q5, .inl (E.2.2.1, 8, .inl (fun _ => 0))) :: ((q4, .inl (E.2.2.1, 14, .inl (fun _ => 0))) :: ((q3, .inl (E.2.2.1, 3200, .inl (fun _ => 0))) :: ((q2, .inl (E.2.2.1, 640, .inl (fun _ => 0))) :: ((q1, .inl (E.2.2.1, 640, .inl (fun _ => 0))) :: ((h0, .inr (10, [.ref q1, .ref q2, .ref q3, .int 0, .ref q4, .int 0, .ref q5, .ref q6, .null, .null, .null, .null, .int 0, .null, .null, .int 0, .null, .int 0, .null, .int 0, .int 0, .int 0, .null, .null])) :: [])))))))) dX10_init_52 6 rfl rfl inX10 tyX10 tyX10_ok nmX10 7 (by decide) tb_951 rfl rfl (by decide +kernel) rfl rfl (Nat.le_of_ble_eq_true rfl) rfl ?_
  refine gk_aload_n dX10_init_55 rfl rfl ?_
  refine gk_sipush (v := 320) dX10_init_56 (by decide) ?_
  refine gk_newI (N' := 320) dX10_init_59 (by decide) (by decide) (Nat.le_of_ble_eq_true rfl) (Nat.le_of_ble_eq_true rfl) (Nat.le_of_ble_eq_true rfl) (fun q7 => ?_)
  refine gk_putF (ty := (.array .int)) (ws' := ((q7, .inl (E.2.2.1, 320, .inl (fun _ => 0))) :: ((q6, .inl (E.2.2.1, 8, .inl (fun _ => 0))) :: ((q5, .inl (E.2.2.1, 8, .inl (fun _ => 0))) :: ((q4, .inl (E.2.2.1, 14, .inl (fun _ => 0))) :: ((q3, .inl (E.2.2.1, 3200, .inl (fun _ => 0))) :: ((q2, .inl (E.2.2.1, 640, .inl (fun _ => 0))) :: ((q1, .inl (E.2.2.1, 640, .inl (fun _ => 0))) :: ((h0, .inr (10, [.ref q1, .ref q2, .ref q3, .int 0, .ref q4, .int 0, .ref q5, .ref q6, .ref q7, .null, .null, .null, .int 0, .null, .null, .int 0, .null, .int 0, .null, .int 0, .int 0, .int 0, .null, .null])) :: []))))))))) dX10_init_61 7 rfl rfl inX10 tyX10 tyX10_ok nmX10 8 (by decide) tb_952 rfl rfl (by decide +kernel) rfl rfl (Nat.le_of_ble_eq_true rfl) rfl ?_
  refine gk_aload_n dX10_init_64 rfl rfl ?_
  refine gk_bipush (v := 8) dX10_init_65 (by decide) ?_
  refine gk_newI (N' := 8) dX10_init_67 (by decide) (by decide) (Nat.le_of_ble_eq_true rfl) (Nat.le_of_ble_eq_true rfl) (Nat.le_of_ble_eq_true rfl) (fun q8 => ?_)
  refine gk_putF (ty := (.array .int)) (ws' := ((q8, .inl (E.2.2.1, 8, .inl (fun _ => 0))) :: ((q7, .inl (E.2.2.1, 320, .inl (fun _ => 0))) :: ((q6, .inl (E.2.2.1, 8, .inl (fun _ => 0))) :: ((q5, .inl (E.2.2.1, 8, .inl (fun _ => 0))) :: ((q4, .inl (E.2.2.1, 14, .inl (fun _ => 0))) :: ((q3, .inl (E.2.2.1, 3200, .inl (fun _ => 0))) :: ((q2, .inl (E.2.2.1, 640, .inl (fun _ => 0))) :: ((q1, .inl (E.2.2.1, 640, .inl (fun _ => 0))) :: ((h0, .inr (10, [.ref q1, .ref q2, .ref q3, .int 0, .ref q4, .int 0, .ref q5, .ref q6, .ref q7, .ref q8, .null, .null, .int 0, .null, .null, .int 0, .null, .int 0, .null, .int 0, .int 0, .int 0, .null, .null])) :: [])))))))))) dX10_init_69 8 rfl rfl inX10 tyX10 tyX10_ok nmX10 9 (by decide) tb_953 rfl rfl (by decide +kernel) rfl rfl (Nat.le_of_ble_eq_true rfl) rfl ?_
  refine gk_aload_n dX10_init_72 rfl rfl ?_
  refine gk_bipush (v := 8) dX10_init_73 (by decide) ?_
  refine gk_newI (N' := 8) dX10_init_75 (by decide) (by decide) (Nat.le_of_ble_eq_true rfl) (Nat.le_of_ble_eq_true rfl) (Nat.le_of_ble_eq_true rfl) (fun q9 => ?_)
  refine gk_putF (ty := (.array .int)) (ws' := ((q9, .inl (E.2.2.1, 8, .inl (fun _ => 0))) :: ((q8, .inl (E.2.2.1, 8, .inl (fun _ => 0))) :: ((q7, .inl (E.2.2.1, 320, .inl (fun _ => 0))) :: ((q6, .inl (E.2.2.1, 8, .inl (fun _ => 0))) :: ((q5, .inl (E.2.2.1, 8, .inl (fun _ => 0))) :: ((q4, .inl (E.2.2.1, 14, .inl (fun _ => 0))) :: ((q3, .inl (E.2.2.1, 3200, .inl (fun _ => 0))) :: ((q2, .inl (E.2.2.1, 640, .inl (fun _ => 0))) :: ((q1, .inl (E.2.2.1, 640, .inl (fun _ => 0))) :: ((h0, .inr (10, [.ref q1, .ref q2, .ref q3, .int 0, .ref q4, .int 0, .ref q5, .ref q6, .ref q7, .ref q8, .ref q9, .null, .int 0, .null, .null, .int 0, .null, .int 0, .null, .int 0, .int 0, .int 0, .null, .null])) :: []))))))))))) dX10_init_77 9 rfl rfl inX10 tyX10 tyX10_ok nmX10 10 (by decide) tb_954 rfl rfl (by decide +kernel) rfl rfl (Nat.le_of_ble_eq_true rfl) rfl ?_
  refine gk_aload_n dX10_init_80 rfl rfl ?_
  refine gk_bipush (v := 8) dX10_init_81 (by decide) ?_
  refine gk_newI (N' := 8) dX10_init_83 (by decide) (by decide) (Nat.le_of_ble_eq_true rfl) (Nat.le_of_ble_eq_true rfl) (Nat.le_of_ble_eq_true rfl) (fun q10 => ?_)
  refine gk_putF (ty := (.array .int)) (ws' := ((q10, .inl (E.2.2.1, 8, .inl (fun _ => 0))) :: ((q9, .inl (E.2.2.1, 8, .inl (fun _ => 0))) :: ((q8, .inl (E.2.2.1, 8, .inl (fun _ => 0))) :: ((q7, .inl (E.2.2.1, 320, .inl (fun _ => 0))) :: ((q6, .inl (E.2.2.1, 8, .inl (fun _ => 0))) :: ((q5, .inl (E.2.2.1, 8, .inl (fun _ => 0))) :: ((q4, .inl (E.2.2.1, 14, .inl (fun _ => 0))) :: ((q3, .inl (E.2.2.1, 3200, .inl (fun _ => 0))) :: ((q2, .inl (E.2.2.1, 640, .inl (fun _ => 0))) :: ((q1, .inl (E.2.2.1, 640, .inl (fun _ => 0))) :: ((h0, .inr (10, [.ref q1, .ref q2, .ref q3, .int 0, .ref q4, .int 0, .ref q5, .ref q6, .ref q7, .ref q8, .ref q9, .ref q10, .int 0, .null, .null, .int 0, .null, .int 0, .null, .int 0, .int 0, .int 0, .null, .null])) :: [])))))))))))) dX10_init_85 10 rfl rfl inX10 tyX10 tyX10_ok nmX10 11 (by decide) tb_955 rfl rfl (by decide +kernel) rfl rfl (Nat.le_of_ble_eq_true rfl) rfl ?_
  refine gk_aload_n dX10_init_88 rfl rfl ?_
  refine gk_bipush (v := 30) dX10_init_89 (by decide) ?_
  refine gk_newI (N' := 30) dX10_init_91 (by decide) (by decide) (Nat.le_of_ble_eq_true rfl) (Nat.le_of_ble_eq_true rfl) (Nat.le_of_ble_eq_true rfl) (fun q11 => ?_)
  refine gk_putF (ty := (.array .int)) (ws' := ((q11, .inl (E.2.2.1, 30, .inl (fun _ => 0))) :: ((q10, .inl (E.2.2.1, 8, .inl (fun _ => 0))) :: ((q9, .inl (E.2.2.1, 8, .inl (fun _ => 0))) :: ((q8, .inl (E.2.2.1, 8, .inl (fun _ => 0))) :: ((q7, .inl (E.2.2.1, 320, .inl (fun _ => 0))) :: ((q6, .inl (E.2.2.1, 8, .inl (fun _ => 0))) :: ((q5, .inl (E.2.2.1, 8, .inl (fun _ => 0))) :: ((q4, .inl (E.2.2.1, 14, .inl (fun _ => 0))) :: ((q3, .inl (E.2.2.1, 3200, .inl (fun _ => 0))) :: ((q2, .inl (E.2.2.1, 640, .inl (fun _ => 0))) :: ((q1, .inl (E.2.2.1, 640, .inl (fun _ => 0))) :: ((h0, .inr (10, [.ref q1, .ref q2, .ref q3, .int 0, .ref q4, .int 0, .ref q5, .ref q6, .ref q7, .ref q8, .ref q9, .ref q10, .int 0, .ref q11, .null, .int 0, .null, .int 0, .null, .int 0, .int 0, .int 0, .null, .null])) :: []))))))))))))) dX10_init_93 11 rfl rfl inX10 tyX10 tyX10_ok nmX10 13 (by decide) tb_957 rfl rfl (by decide +kernel) rfl rfl (Nat.le_of_ble_eq_true rfl) rfl ?_
  refine gk_aload_n dX10_init_96 rfl rfl ?_
  refine gk_bipush (v := 30) dX10_init_97 (by decide) ?_
  refine gk_newI (N' := 30) dX10_init_99 (by decide) (by decide) (Nat.le_of_ble_eq_true rfl) (Nat.le_of_ble_eq_true rfl) (Nat.le_of_ble_eq_true rfl) (fun q12 => ?_)
  refine gk_putF (ty := (.array .int)) (ws' := ((q12, .inl (E.2.2.1, 30, .inl (fun _ => 0))) :: ((q11, .inl (E.2.2.1, 30, .inl (fun _ => 0))) :: ((q10, .inl (E.2.2.1, 8, .inl (fun _ => 0))) :: ((q9, .inl (E.2.2.1, 8, .inl (fun _ => 0))) :: ((q8, .inl (E.2.2.1, 8, .inl (fun _ => 0))) :: ((q7, .inl (E.2.2.1, 320, .inl (fun _ => 0))) :: ((q6, .inl (E.2.2.1, 8, .inl (fun _ => 0))) :: ((q5, .inl (E.2.2.1, 8, .inl (fun _ => 0))) :: ((q4, .inl (E.2.2.1, 14, .inl (fun _ => 0))) :: ((q3, .inl (E.2.2.1, 3200, .inl (fun _ => 0))) :: ((q2, .inl (E.2.2.1, 640, .inl (fun _ => 0))) :: ((q1, .inl (E.2.2.1, 640, .inl (fun _ => 0))) :: ((h0, .inr (10, [.ref q1, .ref q2, .ref q3, .int 0, .ref q4, .int 0, .ref q5, .ref q6, .ref q7, .ref q8, .ref q9, .ref q10, .int 0, .ref q11, .ref q12, .int 0, .null, .int 0, .null, .int 0, .int 0, .int 0, .null, .null])) :: [])))))))))))))) dX10_init_101 12 rfl rfl inX10 tyX10 tyX10_ok nmX10 14 (by decide) tb_958 rfl rfl (by decide +kernel) rfl rfl (Nat.le_of_ble_eq_true rfl) rfl ?_
  refine gk_aload_n dX10_init_104 rfl rfl ?_
  refine gk_bipush (v := 8) dX10_init_105 (by decide) ?_
  refine gk_newI (N' := 8) dX10_init_107 (by decide) (by decide) (Nat.le_of_ble_eq_true rfl) (Nat.le_of_ble_eq_true rfl) (Nat.le_of_ble_eq_true rfl) (fun q13 => ?_)
  refine gk_putF (ty := (.array .int)) (ws' := ((q13, .inl (E.2.2.1, 8, .inl (fun _ => 0))) :: ((q12, .inl (E.2.2.1, 30, .inl (fun _ => 0))) :: ((q11, .inl (E.2.2.1, 30, .inl (fun _ => 0))) :: ((q10, .inl (E.2.2.1, 8, .inl (fun _ => 0))) :: ((q9, .inl (E.2.2.1, 8, .inl (fun _ => 0))) :: ((q8, .inl (E.2.2.1, 8, .inl (fun _ => 0))) :: ((q7, .inl (E.2.2.1, 320, .inl (fun _ => 0))) :: ((q6, .inl (E.2.2.1, 8, .inl (fun _ => 0))) :: ((q5, .inl (E.2.2.1, 8, .inl (fun _ => 0))) :: ((q4, .inl (E.2.2.1, 14, .inl (fun _ => 0))) :: ((q3, .inl (E.2.2.1, 3200, .inl (fun _ => 0))) :: ((q2, .inl (E.2.2.1, 640, .inl (fun _ => 0))) :: ((q1, .inl (E.2.2.1, 640, .inl (fun _ => 0))) :: ((h0, .inr (10, [.ref q1, .ref q2, .ref q3, .int 0, .ref q4, .int 0, .ref q5, .ref q6, .ref q7, .ref q8, .ref q9, .ref q10, .int 0, .ref q11, .ref q12, .int 0, .ref q13, .int 0, .null, .int 0, .int 0, .int 0, .null, .null])) :: []))))))))))))))) dX10_init_109 13 rfl rfl inX10 tyX10 tyX10_ok nmX10 16 (by decide) tb_960 rfl rfl (by decide +kernel) rfl rfl (Nat.le_of_ble_eq_true rfl) rfl ?_
  refine gk_aload_n dX10_init_112 rfl rfl ?_
  refine gk_bipush (v := 80) dX10_init_113 (by decide) ?_
  refine gk_newI (N' := 80) dX10_init_115 (by decide) (by decide) (Nat.le_of_ble_eq_true rfl) (Nat.le_of_ble_eq_true rfl) (Nat.le_of_ble_eq_true rfl) (fun q14 => ?_)
  refine gk_putF (ty := (.array .int)) (ws' := ((q14, .inl (E.2.2.1, 80, .inl (fun _ => 0))) :: ((q13, .inl (E.2.2.1, 8, .inl (fun _ => 0))) :: ((q12, .inl (E.2.2.1, 30, .inl (fun _ => 0))) :: ((q11, .inl (E.2.2.1, 30, .inl (fun _ => 0))) :: ((q10, .inl (E.2.2.1, 8, .inl (fun _ => 0))) :: ((q9, .inl (E.2.2.1, 8, .inl (fun _ => 0))) :: ((q8, .inl (E.2.2.1, 8, .inl (fun _ => 0))) :: ((q7, .inl (E.2.2.1, 320, .inl (fun _ => 0))) :: ((q6, .inl (E.2.2.1, 8, .inl (fun _ => 0))) :: ((q5, .inl (E.2.2.1, 8, .inl (fun _ => 0))) :: ((q4, .inl (E.2.2.1, 14, .inl (fun _ => 0))) :: ((q3, .inl (E.2.2.1, 3200, .inl (fun _ => 0))) :: ((q2, .inl (E.2.2.1, 640, .inl (fun _ => 0))) :: ((q1, .inl (E.2.2.1, 640, .inl (fun _ => 0))) :: ((h0, .inr (10, [.ref q1, .ref q2, .ref q3, .int 0, .ref q4, .int 0, .ref q5, .ref q6, .ref q7, .ref q8, .ref q9, .ref q10, .int 0, .ref q11, .ref q12, .int 0, .ref q13, .int 0, .ref q14, .int 0, .int 0, .int 0, .null, .null])) :: [])))))))))))))))) dX10_init_117 14 rfl rfl inX10 tyX10 tyX10_ok nmX10 18 (by decide) tb_962 rfl rfl (by decide +kernel) rfl rfl (Nat.le_of_ble_eq_true rfl) rfl ?_
  refine gk_aload_n dX10_init_120 rfl rfl ?_
  refine gk_bipush (v := 80) dX10_init_121 (by decide) ?_
  refine gk_newI (N' := 80) dX10_init_123 (by decide) (by decide) (Nat.le_of_ble_eq_true rfl) (Nat.le_of_ble_eq_true rfl) (Nat.le_of_ble_eq_true rfl) (fun q15 => ?_)
  refine gk_putF (ty := (.array .int)) (ws' := ((q15, .inl (E.2.2.1, 80, .inl (fun _ => 0))) :: ((q14, .inl (E.2.2.1, 80, .inl (fun _ => 0))) :: ((q13, .inl (E.2.2.1, 8, .inl (fun _ => 0))) :: ((q12, .inl (E.2.2.1, 30, .inl (fun _ => 0))) :: ((q11, .inl (E.2.2.1, 30, .inl (fun _ => 0))) :: ((q10, .inl (E.2.2.1, 8, .inl (fun _ => 0))) :: ((q9, .inl (E.2.2.1, 8, .inl (fun _ => 0))) :: ((q8, .inl (E.2.2.1, 8, .inl (fun _ => 0))) :: ((q7, .inl (E.2.2.1, 320, .inl (fun _ => 0))) :: ((q6, .inl (E.2.2.1, 8, .inl (fun _ => 0))) :: ((q5, .inl (E.2.2.1, 8, .inl (fun _ => 0))) :: ((q4, .inl (E.2.2.1, 14, .inl (fun _ => 0))) :: ((q3, .inl (E.2.2.1, 3200, .inl (fun _ => 0))) :: ((q2, .inl (E.2.2.1, 640, .inl (fun _ => 0))) :: ((q1, .inl (E.2.2.1, 640, .inl (fun _ => 0))) :: ((h0, .inr (10, [.ref q1, .ref q2, .ref q3, .int 0, .ref q4, .int 0, .ref q5, .ref q6, .ref q7, .ref q8, .ref q9, .ref q10, .int 0, .ref q11, .ref q12, .int 0, .ref q13, .int 0, .ref q14, .int 0, .int 0, .int 0, .ref q15, .null])) :: []))))))))))))))))) dX10_init_125 15 rfl rfl inX10 tyX10 tyX10_ok nmX10 22 (by decide) tb_966 rfl rfl (by decide +kernel) rfl rfl (Nat.le_of_ble_eq_true rfl) rfl ?_
  refine gk_aload_n dX10_init_128 rfl rfl ?_
  refine gk_sipush (v := 400) dX10_init_129 (by decide) ?_
  refine gk_newI (N' := 400) dX10_init_132 (by decide) (by decide) (Nat.le_of_ble_eq_true rfl) (Nat.le_of_ble_eq_true rfl) (Nat.le_of_ble_eq_true rfl) (fun q16 => ?_)
  refine gk_putF (ty := (.array .int)) (ws' := ((q16, .inl (E.2.2.1, 400, .inl (fun _ => 0))) :: ((q15, .inl (E.2.2.1, 80, .inl (fun _ => 0))) :: ((q14, .inl (E.2.2.1, 80, .inl (fun _ => 0))) :: ((q13, .inl (E.2.2.1, 8, .inl (fun _ => 0))) :: ((q12, .inl (E.2.2.1, 30, .inl (fun _ => 0))) :: ((q11, .inl (E.2.2.1, 30, .inl (fun _ => 0))) :: ((q10, .inl (E.2.2.1, 8, .inl (fun _ => 0))) :: ((q9, .inl (E.2.2.1, 8, .inl (fun _ => 0))) :: ((q8, .inl (E.2.2.1, 8, .inl (fun _ => 0))) :: ((q7, .inl (E.2.2.1, 320, .inl (fun _ => 0))) :: ((q6, .inl (E.2.2.1, 8, .inl (fun _ => 0))) :: ((q5, .inl (E.2.2.1, 8, .inl (fun _ => 0))) :: ((q4, .inl (E.2.2.1, 14, .inl (fun _ => 0))) :: ((q3, .inl (E.2.2.1, 3200, .inl (fun _ => 0))) :: ((q2, .inl (E.2.2.1, 640, .inl (fun _ => 0))) :: ((q1, .inl (E.2.2.1, 640, .inl (fun _ => 0))) :: ((h0, .inr (10, [.ref q1, .ref q2, .ref q3, .int 0, .ref q4, .int 0, .ref q5, .ref q6, .ref q7, .ref q8, .ref q9, .ref q10, .int 0, .ref q11, .ref q12, .int 0, .ref q13, .int 0, .ref q14, .int 0, .int 0, .int 0, .ref q15, .ref q16])) :: [])))))))))))))))))) dX10_init_134 16 rfl rfl inX10 tyX10 tyX10_ok nmX10 23 (by decide) tb_967 rfl rfl (by decide +kernel) rfl rfl (Nat.le_of_ble_eq_true rfl) rfl ?_
  refine gk_aload_n dX10_init_137 rfl rfl ?_
  refine gk_get dX10_init_138 16 rfl rfl inX10 0 (by decide) tb_944 rfl rfl ?_
  refine gk_iconst (v := 3) dX10_init_141 (by decide) ?_
  refine gk_iconst (v := 5) dX10_init_142 (by decide) ?_
  refine gk_iast (ws' := ((q16, .inl (E.2.2.1, 400, .inl (fun _ => 0))) :: ((q15, .inl (E.2.2.1, 80, .inl (fun _ => 0))) :: ((q14, .inl (E.2.2.1, 80, .inl (fun _ => 0))) :: ((q13, .inl (E.2.2.1, 8, .inl (fun _ => 0))) :: ((q12, .inl (E.2.2.1, 30, .inl (fun _ => 0))) :: ((q11, .inl (E.2.2.1, 30, .inl (fun _ => 0))) :: ((q10, .inl (E.2.2.1, 8, .inl (fun _ => 0))) :: ((q9, .inl (E.2.2.1, 8, .inl (fun _ => 0))) :: ((q8, .inl (E.2.2.1, 8, .inl (fun _ => 0))) :: ((q7, .inl (E.2.2.1, 320, .inl (fun _ => 0))) :: ((q6, .inl (E.2.2.1, 8, .inl (fun _ => 0))) :: ((q5, .inl (E.2.2.1, 8, .inl (fun _ => 0))) :: ((q4, .inl (E.2.2.1, 14, .inl (fun _ => 0))) :: ((q3, .inl (E.2.2.1, 3200, .inl (fun _ => 0))) :: ((q2, .inl (E.2.2.1, 640, .inl (fun _ => 0))) :: ((q1, .inl (E.2.2.1, 640, .inl (upd (fun _ => 0) (Int32.toNatClampNeg 3) 5))) :: ((h0, .inr (10, [.ref q1, .ref q2, .ref q3, .int 0, .ref q4, .int 0, .ref q5, .ref q6, .ref q7, .ref q8, .ref q9, .ref q10, .int 0, .ref q11, .ref q12, .int 0, .ref q13, .int 0, .ref q14, .int 0, .int 0, .int 0, .ref q15, .ref q16])) :: [])))))))))))))))))) dX10_init_143 15 rfl (by decide) rfl ?_
  exact gk_vret dX10_init_144 [16, 15, 14, 13, 12, 11, 10, 9, 8, 7, 6, 5, 4, 3, 2, 1, 0] (by rfl) (by decide +kernel) ⟨q1, q2, q3, q4, q5, q6, q7, q8, q9, q10, q11, q12, q13, q14, q15, q16, rfl⟩
