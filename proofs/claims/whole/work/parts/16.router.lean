noncomputable def f_X9_addRoute (w : Wd) (x1 : Int32) (x2 : Int32) (x3 : Int32) (x4 : Int32) (x5 : Int32) : Option (Int32 × Wd) :=
  leti (p_X4_routeRefusal 0 w x1 x2 x3 x4 x5) fun u1 =>
  if u1 = 0 then
    (f_X2_push 0 w).bind fun q2 =>
    (f_X6_put 0 q2.2 x1 x2 x3 x4 x5).bind fun q3 =>
    some (q3.1, q3.2)
  else
    some (u1, w)
set_option maxRecDepth 100000 in
set_option maxHeartbeats 4000000 in
theorem t_X9_addRoute {l : Launch} {E : En} (w : Wd) (x1 : Int32) (x2 : Int32) (x3 : Int32) (x4 : Int32) (x5 : Int32) : ∀ q, f_X9_addRoute   w x1 x2 x3 x4 x5 = some q → Mt l E yX9_addRoute cX9_addRoute 7 (some .int) (rmk 5) [.ref (E.1 7 0), .int (x1), .int (x2), .int (x3), .int (x4), .int (x5)] w (eI q.1) q.2 := by
  refine Mt.of [some (.ref (E.1 7 0)), some (.int (x1)), some (.int (x2)), some (.int (x3)), some (.int (x4)), some (.int (x5)), none] (plainFor_of_name pn_X9) rfl (Nat.le_of_ble_eq_true rfl) rfl ?_
  unfold f_X9_addRoute
  refine gm_aload_n dX9_addRoute_0 rfl rfl ?_
  refine gm_get dX9_addRoute_1 ce_7_0 rfl inX9 0 (by decide) tb_298 rfl rfl ?_
  refine gm_iload_n dX9_addRoute_4 rfl rfl ?_
  refine gm_iload_n dX9_addRoute_5 rfl rfl ?_
  refine gm_iload_n dX9_addRoute_6 rfl rfl ?_
  refine gm_iload dX9_addRoute_7 rfl ?_
  refine gm_iload dX9_addRoute_9 rfl ?_
  refine gm_callVk (As := [.int (x1), .int (x2), .int (x3), .int (x4), .int (x5)]) dX9_addRoute_11 (tk_X4_routeRefusal 0 (by decide) w x1 x2 x3 x4 x5) (ce_n_0 (n := 0) (by decide)) rfl cy_X4_routeRefusal tb_402 rfl rfl (rm_ok (by decide) (by decide)) (Nat.le_of_ble_eq_true rfl) ?_
  refine gm_leti_st (fun u1 => ?_)
  refine gm_istore (lv' := [some (.ref (E.1 7 0)), some (.int (x1)), some (.int (x2)), some (.int (x3)), some (.int (x4)), some (.int (x5)), some (.int (u1))]) dX9_addRoute_14 (by decide) rfl rfl ?_
  refine gm_iload dX9_addRoute_16 rfl ?_
  refine gm_if_eq (tgt := 24) dX9_addRoute_18 (by decide) ?_ ?_
  · refine gm_aload_n dX9_addRoute_24 rfl rfl ?_
    refine gm_get dX9_addRoute_25 ce_7_0 rfl inX9 2 (by decide) tb_300 rfl rfl ?_
    refine gm_aload_n dX9_addRoute_28 rfl rfl ?_
    refine gm_get dX9_addRoute_29 ce_7_0 rfl inX9 0 (by decide) tb_298 rfl rfl ?_
    refine gm_callVv (As := [.ref (E.1 0 0)]) dX9_addRoute_32 (t_X2_push 0 (by decide) w) ce_7_1 rfl cy_X2_push tb_325 rfl rfl (rm_ok (by decide) (by decide)) (Nat.le_of_ble_eq_true rfl) (fun q2 => ?_)
    refine gm_aload_n dX9_addRoute_35 rfl rfl ?_
    refine gm_get dX9_addRoute_36 ce_7_0 rfl inX9 0 (by decide) tb_298 rfl rfl ?_
    refine gm_callVk (As := []) dX9_addRoute_39 (tk_X4_routeRows 0 (by decide) q2.2) (ce_n_0 (n := 0) (by decide)) rfl cy_X4_routeRows tb_412 rfl rfl (rm_ok (by decide) (by decide)) (Nat.le_of_ble_eq_true rfl) ?_
    refine gm_iload_n dX9_addRoute_42 rfl rfl ?_
    refine gm_iload_n dX9_addRoute_43 rfl rfl ?_
    refine gm_iload_n dX9_addRoute_44 rfl rfl ?_
    refine gm_iload dX9_addRoute_45 rfl ?_
    refine gm_iload dX9_addRoute_47 rfl ?_
    refine gm_callVi (As := [.int (x1), .int (x2), .int (x3), .int (x4), .int (x5)]) dX9_addRoute_49 (t_X6_put 0 (by decide) q2.2 x1 x2 x3 x4 x5) (ce_n_3 (n := 0) (by decide)) rfl cy_X6_put tb_416 rfl rfl (rm_ok (by decide) (by decide)) (Nat.le_of_ble_eq_true rfl) (fun q3 => ?_)
    exact gm_iret dX9_addRoute_52
  · refine gm_iload dX9_addRoute_21 rfl ?_
    exact gm_iret dX9_addRoute_23

noncomputable def f_X9_addSwitch (w : Wd) : Option (Int32 × Wd) :=
  if (p_X4_switchCount 0 w) < 8 then
    (f_X2_push 0 w).bind fun q1 =>
    (f_X4_putSwitch 0 q1.2).bind fun q2 =>
    some (q2.1, q2.2)
  else
    some ((-3), w)
set_option maxRecDepth 100000 in
set_option maxHeartbeats 4000000 in
theorem t_X9_addSwitch {l : Launch} {E : En} (w : Wd) : ∀ q, f_X9_addSwitch   w  = some q → Mt l E yX9_addSwitch cX9_addSwitch 1 (some .int) (rmk 5) [.ref (E.1 7 0)] w (eI q.1) q.2 := by
  refine Mt.of [some (.ref (E.1 7 0))] (plainFor_of_name pn_X9) rfl (Nat.le_of_ble_eq_true rfl) rfl ?_
  unfold f_X9_addSwitch
  refine gm_aload_n dX9_addSwitch_0 rfl rfl ?_
  refine gm_get dX9_addSwitch_1 ce_7_0 rfl inX9 0 (by decide) tb_298 rfl rfl ?_
  refine gm_callVk (As := []) dX9_addSwitch_4 (tk_X4_switchCount 0 (by decide) w) (ce_n_0 (n := 0) (by decide)) rfl cy_X4_switchCount tb_321 rfl rfl (rm_ok (by decide) (by decide)) (Nat.le_of_ble_eq_true rfl) ?_
  refine gm_bipush (v := 8) dX9_addSwitch_7 (by decide) ?_
  refine gm_icmp_lt (tgt := 15) dX9_addSwitch_9 (by decide) ?_ ?_
  · refine gm_aload_n dX9_addSwitch_15 rfl rfl ?_
    refine gm_get dX9_addSwitch_16 ce_7_0 rfl inX9 2 (by decide) tb_300 rfl rfl ?_
    refine gm_aload_n dX9_addSwitch_19 rfl rfl ?_
    refine gm_get dX9_addSwitch_20 ce_7_0 rfl inX9 0 (by decide) tb_298 rfl rfl ?_
    refine gm_callVv (As := [.ref (E.1 0 0)]) dX9_addSwitch_23 (t_X2_push 0 (by decide) w) ce_7_1 rfl cy_X2_push tb_325 rfl rfl (rm_ok (by decide) (by decide)) (Nat.le_of_ble_eq_true rfl) (fun q1 => ?_)
    refine gm_aload_n dX9_addSwitch_26 rfl rfl ?_
    refine gm_get dX9_addSwitch_27 ce_7_0 rfl inX9 0 (by decide) tb_298 rfl rfl ?_
    refine gm_callVi (As := []) dX9_addSwitch_30 (t_X4_putSwitch 0 (by decide) q1.2) (ce_n_0 (n := 0) (by decide)) rfl cy_X4_putSwitch tb_358 rfl rfl (rm_ok (by decide) (by decide)) (Nat.le_of_ble_eq_true rfl) (fun q2 => ?_)
    exact gm_iret dX9_addSwitch_33
  · refine gm_bipush (v := (-3)) dX9_addSwitch_12 (by decide) ?_
    exact gm_iret dX9_addSwitch_14

noncomputable def f_X9_attempt (w : Wd) (x1 : Int32) (x2 : Int32) : Option (Int32 × Wd) :=
  if (p_X8_has w x1) = 0 then
    some ((-1), w)
  else
    if (p_X9_inRange w x2 0 1) = 0 then
      some ((-1), w)
    else
      if x2 = 0 then
        (f_X8_routeAt w x1).bind fun q2 =>
        some (q2.1, q2.2)
      else
        (f_X8_codeAt w x1).bind fun q1 =>
        some (q1.1, q1.2)
set_option maxRecDepth 100000 in
set_option maxHeartbeats 4000000 in
theorem t_X9_attempt {l : Launch} {E : En} (w : Wd) (x1 : Int32) (x2 : Int32) : ∀ q, f_X9_attempt   w x1 x2 = some q → Mt l E yX9_attempt cX9_attempt 4 (some .int) (rmk 3) [.ref (E.1 7 0), .int (x1), .int (x2)] w (eI q.1) q.2 := by
  refine Mt.of [some (.ref (E.1 7 0)), some (.int (x1)), some (.int (x2)), none] (plainFor_of_name pn_X9) rfl (Nat.le_of_ble_eq_true rfl) rfl ?_
  unfold f_X9_attempt
  refine gm_aload_n dX9_attempt_0 rfl rfl ?_
  refine gm_get dX9_attempt_1 ce_7_0 rfl inX9 4 (by decide) tb_302 rfl rfl ?_
  refine gm_callVk (As := []) dX9_attempt_4 (tk_X3_trace w) ce_7_11 rfl cy_X3_trace tb_744 rfl rfl (rm_ok (by decide) (by decide)) (Nat.le_of_ble_eq_true rfl) ?_
  refine gm_astore_n (lv' := [some (.ref (E.1 7 0)), some (.int (x1)), some (.int (x2)), some (.ref (E.1 7 12))]) dX9_attempt_7 rfl (by decide) rfl rfl ?_
  refine gm_aload_n dX9_attempt_8 rfl rfl ?_
  refine gm_iload_n dX9_attempt_9 rfl rfl ?_
  refine gm_callVk (As := [.int (x1)]) dX9_attempt_10 (tk_X8_has w x1) ce_7_12 rfl cy_X8_has tb_756 rfl rfl (rm_ok (by decide) (by decide)) (Nat.le_of_ble_eq_true rfl) ?_
  refine gm_if_eq (tgt := 25) dX9_attempt_13 (by decide) ?_ ?_
  · refine gm_iconst (v := (-1)) dX9_attempt_25 (by decide) ?_
    exact gm_iret dX9_attempt_26
  · refine gm_iload_n dX9_attempt_16 rfl rfl ?_
    refine gm_iconst (v := 0) dX9_attempt_17 (by decide) ?_
    refine gm_iconst (v := 1) dX9_attempt_18 (by decide) ?_
    refine gm_callSk (As := [.int (x2), .int (0), .int (1)]) dX9_attempt_19 (tk_X9_inRange w x2 0 1) cy_X9_inRange tb_383 rfl rfl (rm_ok (by decide) (by decide)) (Nat.le_of_ble_eq_true rfl) ?_
    refine gm_if_ne (tgt := 27) dX9_attempt_22 (by decide) ?_ ?_
    · refine gm_iload_n dX9_attempt_27 rfl rfl ?_
      refine gm_if_ne (tgt := 39) dX9_attempt_28 (by decide) ?_ ?_
      · refine gm_aload_n dX9_attempt_39 rfl rfl ?_
        refine gm_iload_n dX9_attempt_40 rfl rfl ?_
        refine gm_callVi (As := [.int (x1)]) dX9_attempt_41 (t_X8_codeAt w x1) ce_7_12 rfl cy_X8_codeAt tb_761 rfl rfl (rm_ok (by decide) (by decide)) (Nat.le_of_ble_eq_true rfl) (fun q1 => ?_)
        exact gm_iret dX9_attempt_44
      · refine gm_aload_n dX9_attempt_31 rfl rfl ?_
        refine gm_iload_n dX9_attempt_32 rfl rfl ?_
        refine gm_callVi (As := [.int (x1)]) dX9_attempt_33 (t_X8_routeAt w x1) ce_7_12 rfl cy_X8_routeAt tb_757 rfl rfl (rm_ok (by decide) (by decide)) (Nat.le_of_ble_eq_true rfl) (fun q2 => ?_)
        refine gm_goto (tgt := 44) dX9_attempt_36 (by decide) ?_
        exact gm_iret dX9_attempt_44
    · refine gm_iconst (v := (-1)) dX9_attempt_25 (by decide) ?_
      exact gm_iret dX9_attempt_26

noncomputable def f_X9_attempts (w : Wd) : Option (Int32 × Wd) :=
  some (p_X8_size w, w)
set_option maxRecDepth 100000 in
set_option maxHeartbeats 4000000 in
theorem t_X9_attempts {l : Launch} {E : En} (w : Wd) : ∀ q, f_X9_attempts   w  = some q → Mt l E yX9_attempts cX9_attempts 1 (some .int) (rmk 2) [.ref (E.1 7 0)] w (eI q.1) q.2 := by
  refine Mt.of [some (.ref (E.1 7 0))] (plainFor_of_name pn_X9) rfl (Nat.le_of_ble_eq_true rfl) rfl ?_
  unfold f_X9_attempts
  refine gm_aload_n dX9_attempts_0 rfl rfl ?_
  refine gm_get dX9_attempts_1 ce_7_0 rfl inX9 4 (by decide) tb_302 rfl rfl ?_
  refine gm_callVk (As := []) dX9_attempts_4 (tk_X3_trace w) ce_7_11 rfl cy_X3_trace tb_744 rfl rfl (rm_ok (by decide) (by decide)) (Nat.le_of_ble_eq_true rfl) ?_
  refine gm_callVk (As := []) dX9_attempts_7 (tk_X8_size w) ce_7_12 rfl cy_X8_size tb_748 rfl rfl (rm_ok (by decide) (by decide)) (Nat.le_of_ble_eq_true rfl) ?_
  exact gm_iret dX9_attempts_10
noncomputable def p_X9_attempts (w : Wd) : Int32 :=
  p_X8_size w
theorem fp_X9_attempts (w : Wd) : f_X9_attempts  w  = some (p_X9_attempts  w , w) := by
  unfold f_X9_attempts p_X9_attempts
  (try simp only [leti, letl])
  repeat' (first | rfl | split)
theorem tk_X9_attempts {l : Launch} {E : En} (w : Wd) : Mt l E yX9_attempts cX9_attempts 1 (some .int) (rmk 2) [.ref (E.1 7 0)] w (some (.int (p_X9_attempts  w ))) w := t_X9_attempts   w  _ (fp_X9_attempts  w )

noncomputable def f_X9_band (w : Wd) : Option (Int32 × Wd) :=
  (f_X9_bandOf w (p_X4_minutes 0 w)).bind fun q1 =>
  some (q1.1, q1.2)
set_option maxRecDepth 100000 in
set_option maxHeartbeats 4000000 in
theorem t_X9_band {l : Launch} {E : En} (w : Wd) : ∀ q, f_X9_band   w  = some q → Mt l E yX9_band cX9_band 1 (some .int) (rmk 3) [.ref (E.1 7 0)] w (eI q.1) q.2 := by
  refine Mt.of [some (.ref (E.1 7 0))] (plainFor_of_name pn_X9) rfl (Nat.le_of_ble_eq_true rfl) rfl ?_
  unfold f_X9_band
  refine gm_aload_n dX9_band_0 rfl rfl ?_
  refine gm_get dX9_band_1 ce_7_0 rfl inX9 0 (by decide) tb_298 rfl rfl ?_
  refine gm_callVk (As := []) dX9_band_4 (tk_X4_minutes 0 (by decide) w) (ce_n_0 (n := 0) (by decide)) rfl cy_X4_minutes tb_681 rfl rfl (rm_ok (by decide) (by decide)) (Nat.le_of_ble_eq_true rfl) ?_
  refine gm_callSi (As := [.int (p_X4_minutes 0 w)]) dX9_band_7 (t_X9_bandOf w (p_X4_minutes 0 w)) cy_X9_bandOf tb_695 rfl rfl (rm_ok (by decide) (by decide)) (Nat.le_of_ble_eq_true rfl) (fun q1 => ?_)
  exact gm_iret dX9_band_10

noncomputable def f_X9_call (w : Wd) (x1 : Int32) (x2 : Int32) : Option (Int32 × Wd) :=
  if (p_X4_hasSwitch 0 w x1) = 0 then
    some ((-1), w)
  else
    (f_X9_isNumber w x2).bind fun q1 =>
    if q1.1 = 0 then
      some ((-1), q1.2)
    else
      (f_X0_freePlace 0 q1.2).bind fun q2 =>
      if q2.1 = (-9) then
        some ((-3), q2.2)
      else
        (f_X3_start 0 q2.2 x1 x2).bind fun q3 =>
        if q3.1 = 0 then
          (f_X2_push 0 q3.2).bind fun q4 =>
          (f_X4_connect 0 q4.2 q2.1).bind fun q5 =>
          some (q2.1, q5.2)
        else
          some ((-10) - q3.1, q3.2)
set_option maxRecDepth 100000 in
set_option maxHeartbeats 4000000 in
theorem t_X9_call {l : Launch} {E : En} (w : Wd) (x1 : Int32) (x2 : Int32) : ∀ q, f_X9_call   w x1 x2 = some q → Mt l E yX9_call cX9_call 5 (some .int) (rmk 52) [.ref (E.1 7 0), .int (x1), .int (x2)] w (eI q.1) q.2 := by
  refine Mt.of [some (.ref (E.1 7 0)), some (.int (x1)), some (.int (x2)), none, none] (plainFor_of_name pn_X9) rfl (Nat.le_of_ble_eq_true rfl) rfl ?_
  unfold f_X9_call
  refine gm_aload_n dX9_call_0 rfl rfl ?_
  refine gm_get dX9_call_1 ce_7_0 rfl inX9 0 (by decide) tb_298 rfl rfl ?_
  refine gm_iload_n dX9_call_4 rfl rfl ?_
  refine gm_callVk (As := [.int (x1)]) dX9_call_5 (tk_X4_hasSwitch 0 (by decide) w x1) (ce_n_0 (n := 0) (by decide)) rfl cy_X4_hasSwitch tb_366 rfl rfl (rm_ok (by decide) (by decide)) (Nat.le_of_ble_eq_true rfl) ?_
  refine gm_if_eq (tgt := 18) dX9_call_8 (by decide) ?_ ?_
  · refine gm_iconst (v := (-1)) dX9_call_18 (by decide) ?_
    exact gm_iret dX9_call_19
  · refine gm_iload_n dX9_call_11 rfl rfl ?_
    refine gm_callSi (As := [.int (x2)]) dX9_call_12 (t_X9_isNumber w x2) cy_X9_isNumber tb_470 rfl rfl (rm_ok (by decide) (by decide)) (Nat.le_of_ble_eq_true rfl) (fun q1 => ?_)
    refine gm_if_ne (tgt := 20) dX9_call_15 (by decide) ?_ ?_
    · refine gm_aload_n dX9_call_20 rfl rfl ?_
      refine gm_get dX9_call_21 ce_7_0 rfl inX9 0 (by decide) tb_298 rfl rfl ?_
      refine gm_callVk (As := []) dX9_call_24 (tk_X4_callRows 0 (by decide) q1.2) (ce_n_0 (n := 0) (by decide)) rfl cy_X4_callRows tb_480 rfl rfl (rm_ok (by decide) (by decide)) (Nat.le_of_ble_eq_true rfl) ?_
      refine gm_callVi (As := []) dX9_call_27 (t_X0_freePlace 0 (by decide) q1.2) (ce_n_13 (n := 0) (by decide)) rfl cy_X0_freePlace tb_484 rfl rfl (rm_ok (by decide) (by decide)) (Nat.le_of_ble_eq_true rfl) (fun q2 => ?_)
      refine gm_istore_n (lv' := [some (.ref (E.1 7 0)), some (.int (x1)), some (.int (x2)), some (.int (q2.1)), none]) dX9_call_30 rfl (by decide) rfl rfl ?_
      refine gm_iload_n dX9_call_31 rfl rfl ?_
      refine gm_bipush (v := (-9)) dX9_call_32 (by decide) ?_
      refine gm_icmp_ne (tgt := 40) dX9_call_34 (by decide) ?_ ?_
      · refine gm_aload_n dX9_call_40 rfl rfl ?_
        refine gm_get dX9_call_41 ce_7_0 rfl inX9 4 (by decide) tb_302 rfl rfl ?_
        refine gm_aload_n dX9_call_44 rfl rfl ?_
        refine gm_get dX9_call_45 ce_7_0 rfl inX9 0 (by decide) tb_298 rfl rfl ?_
        refine gm_iload_n dX9_call_48 rfl rfl ?_
        refine gm_iload_n dX9_call_49 rfl rfl ?_
        refine gm_callVi (As := [.ref (E.1 0 0), .int (x1), .int (x2)]) dX9_call_50 (t_X3_start 0 (by decide) q2.2 x1 x2) ce_7_11 rfl cy_X3_start tb_488 rfl rfl (rm_ok (by decide) (by decide)) (Nat.le_of_ble_eq_true rfl) (fun q3 => ?_)
        refine gm_istore (lv' := [some (.ref (E.1 7 0)), some (.int (x1)), some (.int (x2)), some (.int (q2.1)), some (.int (q3.1))]) dX9_call_53 (by decide) rfl rfl ?_
        refine gm_iload dX9_call_55 rfl ?_
        refine gm_if_eq (tgt := 66) dX9_call_57 (by decide) ?_ ?_
        · refine gm_aload_n dX9_call_66 rfl rfl ?_
          refine gm_get dX9_call_67 ce_7_0 rfl inX9 2 (by decide) tb_300 rfl rfl ?_
          refine gm_aload_n dX9_call_70 rfl rfl ?_
          refine gm_get dX9_call_71 ce_7_0 rfl inX9 0 (by decide) tb_298 rfl rfl ?_
          refine gm_callVv (As := [.ref (E.1 0 0)]) dX9_call_74 (t_X2_push 0 (by decide) q3.2) ce_7_1 rfl cy_X2_push tb_325 rfl rfl (rm_ok (by decide) (by decide)) (Nat.le_of_ble_eq_true rfl) (fun q4 => ?_)
          refine gm_aload_n dX9_call_77 rfl rfl ?_
          refine gm_get dX9_call_78 ce_7_0 rfl inX9 0 (by decide) tb_298 rfl rfl ?_
          refine gm_iload_n dX9_call_81 rfl rfl ?_
          refine gm_aload_n dX9_call_82 rfl rfl ?_
          refine gm_get dX9_call_83 ce_7_0 rfl inX9 4 (by decide) tb_302 rfl rfl ?_
          refine gm_callVv (As := [.int (q2.1), .ref (E.1 7 11)]) dX9_call_86 (t_X4_connect 0 (by decide) q4.2 q2.1) (ce_n_0 (n := 0) (by decide)) rfl cy_X4_connect tb_597 rfl rfl (rm_ok (by decide) (by decide)) (Nat.le_of_ble_eq_true rfl) (fun q5 => ?_)
          refine gm_iload_n dX9_call_89 rfl rfl ?_
          exact gm_iret dX9_call_90
        · refine gm_bipush (v := (-10)) dX9_call_60 (by decide) ?_
          refine gm_iload dX9_call_62 rfl ?_
          refine gm_isub dX9_call_64 ?_
          exact gm_iret dX9_call_65
      · refine gm_bipush (v := (-3)) dX9_call_37 (by decide) ?_
        exact gm_iret dX9_call_39
    · refine gm_iconst (v := (-1)) dX9_call_18 (by decide) ?_
      exact gm_iret dX9_call_19

noncomputable def f_X9_called (w : Wd) (x1 : Int32) : Option (Int32 × Wd) :=
  (f_X0_has 0 w x1).bind fun q1 =>
  if q1.1 = 0 then
    some ((-1), q1.2)
  else
    (f_X0_numberAt 0 q1.2 x1).bind fun q2 =>
    some (q2.1, q2.2)
set_option maxRecDepth 100000 in
set_option maxHeartbeats 4000000 in
theorem t_X9_called {l : Launch} {E : En} (w : Wd) (x1 : Int32) : ∀ q, f_X9_called   w x1 = some q → Mt l E yX9_called cX9_called 2 (some .int) (rmk 3) [.ref (E.1 7 0), .int (x1)] w (eI q.1) q.2 := by
  refine Mt.of [some (.ref (E.1 7 0)), some (.int (x1))] (plainFor_of_name pn_X9) rfl (Nat.le_of_ble_eq_true rfl) rfl ?_
  unfold f_X9_called
  refine gm_aload_n dX9_called_0 rfl rfl ?_
  refine gm_get dX9_called_1 ce_7_0 rfl inX9 0 (by decide) tb_298 rfl rfl ?_
  refine gm_callVk (As := []) dX9_called_4 (tk_X4_callRows 0 (by decide) w) (ce_n_0 (n := 0) (by decide)) rfl cy_X4_callRows tb_480 rfl rfl (rm_ok (by decide) (by decide)) (Nat.le_of_ble_eq_true rfl) ?_
  refine gm_iload_n dX9_called_7 rfl rfl ?_
  refine gm_callVi (As := [.int (x1)]) dX9_called_8 (t_X0_has 0 (by decide) w x1) (ce_n_13 (n := 0) (by decide)) rfl cy_X0_has tb_635 rfl rfl (rm_ok (by decide) (by decide)) (Nat.le_of_ble_eq_true rfl) (fun q1 => ?_)
  refine gm_if_eq (tgt := 28) dX9_called_11 (by decide) ?_ ?_
  · refine gm_iconst (v := (-1)) dX9_called_28 (by decide) ?_
    exact gm_iret dX9_called_29
  · refine gm_aload_n dX9_called_14 rfl rfl ?_
    refine gm_get dX9_called_15 ce_7_0 rfl inX9 0 (by decide) tb_298 rfl rfl ?_
    refine gm_callVk (As := []) dX9_called_18 (tk_X4_callRows 0 (by decide) q1.2) (ce_n_0 (n := 0) (by decide)) rfl cy_X4_callRows tb_480 rfl rfl (rm_ok (by decide) (by decide)) (Nat.le_of_ble_eq_true rfl) ?_
    refine gm_iload_n dX9_called_21 rfl rfl ?_
    refine gm_callVi (As := [.int (x1)]) dX9_called_22 (t_X0_numberAt 0 (by decide) q1.2 x1) (ce_n_13 (n := 0) (by decide)) rfl cy_X0_numberAt tb_728 rfl rfl (rm_ok (by decide) (by decide)) (Nat.le_of_ble_eq_true rfl) (fun q2 => ?_)
    refine gm_goto (tgt := 29) dX9_called_25 (by decide) ?_
    exact gm_iret dX9_called_29

noncomputable def f_X9_calls (w : Wd) : Option (Int32 × Wd) :=
  some (p_X0_size 0 w, w)
set_option maxRecDepth 100000 in
set_option maxHeartbeats 4000000 in
theorem t_X9_calls {l : Launch} {E : En} (w : Wd) : ∀ q, f_X9_calls   w  = some q → Mt l E yX9_calls cX9_calls 1 (some .int) (rmk 2) [.ref (E.1 7 0)] w (eI q.1) q.2 := by
  refine Mt.of [some (.ref (E.1 7 0))] (plainFor_of_name pn_X9) rfl (Nat.le_of_ble_eq_true rfl) rfl ?_
  unfold f_X9_calls
  refine gm_aload_n dX9_calls_0 rfl rfl ?_
  refine gm_get dX9_calls_1 ce_7_0 rfl inX9 0 (by decide) tb_298 rfl rfl ?_
  refine gm_callVk (As := []) dX9_calls_4 (tk_X4_callRows 0 (by decide) w) (ce_n_0 (n := 0) (by decide)) rfl cy_X4_callRows tb_480 rfl rfl (rm_ok (by decide) (by decide)) (Nat.le_of_ble_eq_true rfl) ?_
  refine gm_callVk (As := []) dX9_calls_7 (tk_X0_size 0 (by decide) w) (ce_n_13 (n := 0) (by decide)) rfl cy_X0_size tb_715 rfl rfl (rm_ok (by decide) (by decide)) (Nat.le_of_ble_eq_true rfl) ?_
  exact gm_iret dX9_calls_10
noncomputable def p_X9_calls (w : Wd) : Int32 :=
  p_X0_size 0 w
theorem fp_X9_calls (w : Wd) : f_X9_calls  w  = some (p_X9_calls  w , w) := by
  unfold f_X9_calls p_X9_calls
  (try simp only [leti, letl])
  repeat' (first | rfl | split)
theorem tk_X9_calls {l : Launch} {E : En} (w : Wd) : Mt l E yX9_calls cX9_calls 1 (some .int) (rmk 2) [.ref (E.1 7 0)] w (some (.int (p_X9_calls  w ))) w := t_X9_calls   w  _ (fp_X9_calls  w )

noncomputable def f_X9_cheapest (w : Wd) (x1 : Int32) (x2 : Int32) : Option (Int32 × Wd) :=
  if (p_X4_hasSwitch 0 w x1) = 0 then
    some ((-1), w)
  else
    (f_X9_isNumber w x2).bind fun q1 =>
    if q1.1 = 0 then
      some ((-1), q1.2)
    else
      (f_X1_search 0 q1.2 x1 x2).bind fun q2 =>
      some (q2.1, q2.2)
set_option maxRecDepth 100000 in
set_option maxHeartbeats 4000000 in
theorem t_X9_cheapest {l : Launch} {E : En} (w : Wd) (x1 : Int32) (x2 : Int32) : ∀ q, f_X9_cheapest   w x1 x2 = some q → Mt l E yX9_cheapest cX9_cheapest 3 (some .int) (rmk 32) [.ref (E.1 7 0), .int (x1), .int (x2)] w (eI q.1) q.2 := by
  refine Mt.of [some (.ref (E.1 7 0)), some (.int (x1)), some (.int (x2))] (plainFor_of_name pn_X9) rfl (Nat.le_of_ble_eq_true rfl) rfl ?_
  unfold f_X9_cheapest
  refine gm_aload_n dX9_cheapest_0 rfl rfl ?_
  refine gm_get dX9_cheapest_1 ce_7_0 rfl inX9 0 (by decide) tb_298 rfl rfl ?_
  refine gm_iload_n dX9_cheapest_4 rfl rfl ?_
  refine gm_callVk (As := [.int (x1)]) dX9_cheapest_5 (tk_X4_hasSwitch 0 (by decide) w x1) (ce_n_0 (n := 0) (by decide)) rfl cy_X4_hasSwitch tb_366 rfl rfl (rm_ok (by decide) (by decide)) (Nat.le_of_ble_eq_true rfl) ?_
  refine gm_if_eq (tgt := 18) dX9_cheapest_8 (by decide) ?_ ?_
  · refine gm_iconst (v := (-1)) dX9_cheapest_18 (by decide) ?_
    exact gm_iret dX9_cheapest_19
  · refine gm_iload_n dX9_cheapest_11 rfl rfl ?_
    refine gm_callSi (As := [.int (x2)]) dX9_cheapest_12 (t_X9_isNumber w x2) cy_X9_isNumber tb_470 rfl rfl (rm_ok (by decide) (by decide)) (Nat.le_of_ble_eq_true rfl) (fun q1 => ?_)
    refine gm_if_ne (tgt := 20) dX9_cheapest_15 (by decide) ?_ ?_
    · refine gm_aload_n dX9_cheapest_20 rfl rfl ?_
      refine gm_get dX9_cheapest_21 ce_7_0 rfl inX9 5 (by decide) tb_303 rfl rfl ?_
      refine gm_aload_n dX9_cheapest_24 rfl rfl ?_
      refine gm_get dX9_cheapest_25 ce_7_0 rfl inX9 0 (by decide) tb_298 rfl rfl ?_
      refine gm_iload_n dX9_cheapest_28 rfl rfl ?_
      refine gm_iload_n dX9_cheapest_29 rfl rfl ?_
      refine gm_callVi (As := [.ref (E.1 0 0), .int (x1), .int (x2)]) dX9_cheapest_30 (t_X1_search 0 (by decide) q1.2 x1 x2) ce_7_16 rfl cy_X1_search tb_769 rfl rfl (rm_ok (by decide) (by decide)) (Nat.le_of_ble_eq_true rfl) (fun q2 => ?_)
      exact gm_iret dX9_cheapest_33
    · refine gm_iconst (v := (-1)) dX9_cheapest_18 (by decide) ?_
      exact gm_iret dX9_cheapest_19

noncomputable def b_X9_choice_76 (rc76 : Wd → Int32 → Int32 → Int32 → Int32 → Int32 → Int32 → Option (Int32 × Wd)) (w : Wd) (y1 : Int32) (y3 : Int32) (y5 : Int32) (y6 : Int32) (y7 : Int32) (y8 : Int32) : Option (Int32 × Wd) :=
  if y3 ≤ y8 then
    some (y7, w)
  else
    if 40 ≤ y8 then
      some (y7, w)
    else
      if y7 = (-9) then
        some (y7, w)
      else
        (f_X6_choiceAfter 0 w y7 y1 y6 y5).bind fun q6 =>
        rc76 q6.2 y1 y3 y5 y6 q6.1 (y8 + 1)
set_option maxRecDepth 100000 in
set_option maxHeartbeats 4000000 in
theorem kb_X9_choice_76 {l : Launch} {E : En} (rc76 : Wd → Int32 → Int32 → Int32 → Int32 → Int32 → Int32 → Option (Int32 × Wd)) (hrc76 : ∀ (w : Wd) (y1 : Int32) (y3 : Int32) (y5 : Int32) (y6 : Int32) (y7 : Int32) (y8 : Int32), Gm l E cX9_choice 9 RX9 (some .int) (rmk (4)) eI (rc76 w y1 y3 y5 y6 y7 y8) w 76 [none, some (.int (y1)), none, some (.int (y3)), some (.ref (E.1 0 3)), some (.int (y5)), some (.int (y6)), some (.int (y7)), some (.int (y8))] []) (w : Wd) (y1 : Int32) (y3 : Int32) (y5 : Int32) (y6 : Int32) (y7 : Int32) (y8 : Int32) : Gm l E cX9_choice 9 RX9 (some .int) (rmk (4)) eI (b_X9_choice_76   rc76 w y1 y3 y5 y6 y7 y8) w 76 [none, some (.int (y1)), none, some (.int (y3)), some (.ref (E.1 0 3)), some (.int (y5)), some (.int (y6)), some (.int (y7)), some (.int (y8))] [] := by
  unfold b_X9_choice_76
  refine gm_iload dX9_choice_76 rfl ?_
  refine gm_iload_n dX9_choice_78 rfl rfl ?_
  refine gm_icmp_ge (tgt := 116) dX9_choice_79 (by decide) ?_ ?_
  · refine gm_iload dX9_choice_116 rfl ?_
    exact gm_iret dX9_choice_118
  · refine gm_iload dX9_choice_82 rfl ?_
    refine gm_bipush (v := 40) dX9_choice_84 (by decide) ?_
    refine gm_icmp_ge (tgt := 116) dX9_choice_86 (by decide) ?_ ?_
    · refine gm_iload dX9_choice_116 rfl ?_
      exact gm_iret dX9_choice_118
    · refine gm_iload dX9_choice_89 rfl ?_
      refine gm_bipush (v := (-9)) dX9_choice_91 (by decide) ?_
      refine gm_icmp_eq (tgt := 116) dX9_choice_93 (by decide) ?_ ?_
      · refine gm_iload dX9_choice_116 rfl ?_
        exact gm_iret dX9_choice_118
      · refine gm_aload dX9_choice_96 rfl ?_
        refine gm_iload dX9_choice_98 rfl ?_
        refine gm_iload_n dX9_choice_100 rfl rfl ?_
        refine gm_iload dX9_choice_101 rfl ?_
        refine gm_iload dX9_choice_103 rfl ?_
        refine gm_callVi (As := [.int (y7), .int (y1), .int (y6), .int (y5)]) dX9_choice_105 (t_X6_choiceAfter 0 (by decide) w y7 y1 y6 y5) (ce_n_3 (n := 0) (by decide)) rfl cy_X6_choiceAfter tb_710 rfl rfl (rm_ok (by decide) (by decide)) (Nat.le_of_ble_eq_true rfl) (fun q6 => ?_)
        refine gm_istore (lv' := [none, some (.int (y1)), none, some (.int (y3)), some (.ref (E.1 0 3)), some (.int (y5)), some (.int (y6)), some (.int (q6.1)), some (.int (y8))]) dX9_choice_108 (by decide) rfl rfl ?_
        refine gm_iinc (v := 1) (lv' := [none, some (.int (y1)), none, some (.int (y3)), some (.ref (E.1 0 3)), some (.int (y5)), some (.int (y6)), some (.int (q6.1)), some (.int (y8 + 1))]) dX9_choice_110 rfl (by decide) (by decide) rfl rfl ?_
        refine gm_goto (tgt := 76) dX9_choice_113 (by decide) ?_
        exact gm_weak (lsub_n (lsub_s (lsub_n (lsub_s (lsub_s (lsub_s (lsub_s (lsub_s (lsub_s lsub_0))))))))) (hrc76 q6.2 y1 y3 y5 y6 q6.1 (y8 + 1))
noncomputable def h_X9_choice_76 : Nat → (Wd → Int32 → Int32 → Int32 → Int32 → Int32 → Int32 → Option (Int32 × Wd))
  | 0 => fun _ _ _ _ _ _ _ => none
  | fu + 1 => b_X9_choice_76    (h_X9_choice_76    fu)
set_option maxRecDepth 100000 in
set_option maxHeartbeats 4000000 in
theorem k_X9_choice_76 {l : Launch} {E : En} : ∀ (fu : Nat) (w : Wd) (y1 : Int32) (y3 : Int32) (y5 : Int32) (y6 : Int32) (y7 : Int32) (y8 : Int32), Gm l E cX9_choice 9 RX9 (some .int) (rmk (4)) eI (h_X9_choice_76    fu w y1 y3 y5 y6 y7 y8) w 76 [none, some (.int (y1)), none, some (.int (y3)), some (.ref (E.1 0 3)), some (.int (y5)), some (.int (y6)), some (.int (y7)), some (.int (y8))] []
  | 0, _, _, _, _, _, _, _ => gm_none
  | fu + 1, w, y1, y3, y5, y6, y7, y8 => kb_X9_choice_76     (h_X9_choice_76    fu)  (fun w y1 y3 y5 y6 y7 y8 => k_X9_choice_76      fu w y1 y3 y5 y6 y7 y8) w y1 y3 y5 y6 y7 y8
noncomputable def f_X9_choice (w : Wd) (x1 : Int32) (x2 : Int32) (x3 : Int32) : Option (Int32 × Wd) :=
  if (p_X4_hasSwitch 0 w x1) = 0 then
    some ((-1), w)
  else
    (f_X9_isNumber w x2).bind fun q1 =>
    if q1.1 = 0 then
      some ((-1), q1.2)
    else
      if 0 ≤ x3 then
        (f_X9_bandOf q1.2 (p_X4_minutes 0 q1.2)).bind fun q2 =>
        (f_X9_digitsOf q2.2 x2 (-9)).bind fun q3 =>
        (f_X6_longestPrefix 0 q3.2 x1 q3.1).bind fun q4 =>
        (f_X6_choiceAfter 0 q4.2 (-9) x1 q4.1 q2.1).bind fun q5 =>
        h_X9_choice_76 FU q5.2 x1 x3 q2.1 q4.1 q5.1 0
      else
        some ((-1), q1.2)
set_option maxRecDepth 100000 in
set_option maxHeartbeats 4000000 in
theorem t_X9_choice {l : Launch} {E : En} (w : Wd) (x1 : Int32) (x2 : Int32) (x3 : Int32) : ∀ q, f_X9_choice   w x1 x2 x3 = some q → Mt l E yX9_choice cX9_choice 9 (some .int) (rmk 4) [.ref (E.1 7 0), .int (x1), .int (x2), .int (x3)] w (eI q.1) q.2 := by
  refine Mt.of [some (.ref (E.1 7 0)), some (.int (x1)), some (.int (x2)), some (.int (x3)), none, none, none, none, none] (plainFor_of_name pn_X9) rfl (Nat.le_of_ble_eq_true rfl) rfl ?_
  unfold f_X9_choice
  refine gm_aload_n dX9_choice_0 rfl rfl ?_
  refine gm_get dX9_choice_1 ce_7_0 rfl inX9 0 (by decide) tb_298 rfl rfl ?_
  refine gm_iload_n dX9_choice_4 rfl rfl ?_
  refine gm_callVk (As := [.int (x1)]) dX9_choice_5 (tk_X4_hasSwitch 0 (by decide) w x1) (ce_n_0 (n := 0) (by decide)) rfl cy_X4_hasSwitch tb_366 rfl rfl (rm_ok (by decide) (by decide)) (Nat.le_of_ble_eq_true rfl) ?_
  refine gm_if_eq (tgt := 22) dX9_choice_8 (by decide) ?_ ?_
  · refine gm_iconst (v := (-1)) dX9_choice_22 (by decide) ?_
    exact gm_iret dX9_choice_23
  · refine gm_iload_n dX9_choice_11 rfl rfl ?_
    refine gm_callSi (As := [.int (x2)]) dX9_choice_12 (t_X9_isNumber w x2) cy_X9_isNumber tb_470 rfl rfl (rm_ok (by decide) (by decide)) (Nat.le_of_ble_eq_true rfl) (fun q1 => ?_)
    refine gm_if_eq (tgt := 22) dX9_choice_15 (by decide) ?_ ?_
    · refine gm_iconst (v := (-1)) dX9_choice_22 (by decide) ?_
      exact gm_iret dX9_choice_23
    · refine gm_iload_n dX9_choice_18 rfl rfl ?_
      refine gm_if_ge (tgt := 24) dX9_choice_19 (by decide) ?_ ?_
      · refine gm_aload_n dX9_choice_24 rfl rfl ?_
        refine gm_get dX9_choice_25 ce_7_0 rfl inX9 0 (by decide) tb_298 rfl rfl ?_
        refine gm_callVk (As := []) dX9_choice_28 (tk_X4_routeRows 0 (by decide) q1.2) (ce_n_0 (n := 0) (by decide)) rfl cy_X4_routeRows tb_412 rfl rfl (rm_ok (by decide) (by decide)) (Nat.le_of_ble_eq_true rfl) ?_
        refine gm_astore (lv' := [some (.ref (E.1 7 0)), some (.int (x1)), some (.int (x2)), some (.int (x3)), some (.ref (E.1 0 3)), none, none, none, none]) dX9_choice_31 (by decide) rfl rfl ?_
        refine gm_aload_n dX9_choice_33 rfl rfl ?_
        refine gm_get dX9_choice_34 ce_7_0 rfl inX9 0 (by decide) tb_298 rfl rfl ?_
        refine gm_callVk (As := []) dX9_choice_37 (tk_X4_minutes 0 (by decide) q1.2) (ce_n_0 (n := 0) (by decide)) rfl cy_X4_minutes tb_681 rfl rfl (rm_ok (by decide) (by decide)) (Nat.le_of_ble_eq_true rfl) ?_
        refine gm_callSi (As := [.int (p_X4_minutes 0 q1.2)]) dX9_choice_40 (t_X9_bandOf q1.2 (p_X4_minutes 0 q1.2)) cy_X9_bandOf tb_695 rfl rfl (rm_ok (by decide) (by decide)) (Nat.le_of_ble_eq_true rfl) (fun q2 => ?_)
        refine gm_istore (lv' := [some (.ref (E.1 7 0)), some (.int (x1)), some (.int (x2)), some (.int (x3)), some (.ref (E.1 0 3)), some (.int (q2.1)), none, none, none]) dX9_choice_43 (by decide) rfl rfl ?_
        refine gm_aload dX9_choice_45 rfl ?_
        refine gm_iload_n dX9_choice_47 rfl rfl ?_
        refine gm_iload_n dX9_choice_48 rfl rfl ?_
        refine gm_bipush (v := (-9)) dX9_choice_49 (by decide) ?_
        refine gm_callSl (As := [.int (x2), .int ((-9))]) dX9_choice_51 (t_X9_digitsOf q2.2 x2 (-9)) cy_X9_digitsOf tb_708 rfl rfl (rm_ok (by decide) (by decide)) (Nat.le_of_ble_eq_true rfl) (fun q3 => ?_)
        refine gm_callVi (As := [.int (x1), .long (q3.1)]) dX9_choice_54 (t_X6_longestPrefix 0 (by decide) q3.2 x1 q3.1) (ce_n_3 (n := 0) (by decide)) rfl cy_X6_longestPrefix tb_709 rfl rfl (rm_ok (by decide) (by decide)) (Nat.le_of_ble_eq_true rfl) (fun q4 => ?_)
        refine gm_istore (lv' := [some (.ref (E.1 7 0)), some (.int (x1)), some (.int (x2)), some (.int (x3)), some (.ref (E.1 0 3)), some (.int (q2.1)), some (.int (q4.1)), none, none]) dX9_choice_57 (by decide) rfl rfl ?_
        refine gm_aload dX9_choice_59 rfl ?_
        refine gm_bipush (v := (-9)) dX9_choice_61 (by decide) ?_
        refine gm_iload_n dX9_choice_63 rfl rfl ?_
        refine gm_iload dX9_choice_64 rfl ?_
        refine gm_iload dX9_choice_66 rfl ?_
        refine gm_callVi (As := [.int ((-9)), .int (x1), .int (q4.1), .int (q2.1)]) dX9_choice_68 (t_X6_choiceAfter 0 (by decide) q4.2 (-9) x1 q4.1 q2.1) (ce_n_3 (n := 0) (by decide)) rfl cy_X6_choiceAfter tb_710 rfl rfl (rm_ok (by decide) (by decide)) (Nat.le_of_ble_eq_true rfl) (fun q5 => ?_)
        refine gm_istore (lv' := [some (.ref (E.1 7 0)), some (.int (x1)), some (.int (x2)), some (.int (x3)), some (.ref (E.1 0 3)), some (.int (q2.1)), some (.int (q4.1)), some (.int (q5.1)), none]) dX9_choice_71 (by decide) rfl rfl ?_
        refine gm_iconst (v := 0) dX9_choice_73 (by decide) ?_
        refine gm_istore (lv' := [some (.ref (E.1 7 0)), some (.int (x1)), some (.int (x2)), some (.int (x3)), some (.ref (E.1 0 3)), some (.int (q2.1)), some (.int (q4.1)), some (.int (q5.1)), some (.int (0))]) dX9_choice_74 (by decide) rfl rfl ?_
        exact gm_weak (lsub_n (lsub_s (lsub_n (lsub_s (lsub_s (lsub_s (lsub_s (lsub_s (lsub_s lsub_0))))))))) (k_X9_choice_76 FU q5.2 x1 x3 q2.1 q4.1 q5.1 0)
      · refine gm_iconst (v := (-1)) dX9_choice_22 (by decide) ?_
        exact gm_iret dX9_choice_23

noncomputable def f_X9_clear (w : Wd) : Option (Int32 × Wd) :=
  leti (p_X7_size w) fun u1 =>
  (f_X7_empty w).bind fun q2 =>
  some (u1, q2.2)
set_option maxRecDepth 100000 in
set_option maxHeartbeats 4000000 in
theorem t_X9_clear {l : Launch} {E : En} (w : Wd) : ∀ q, f_X9_clear   w  = some q → Mt l E yX9_clear cX9_clear 2 (some .int) (rmk 2) [.ref (E.1 7 0)] w (eI q.1) q.2 := by
  refine Mt.of [some (.ref (E.1 7 0)), none] (plainFor_of_name pn_X9) rfl (Nat.le_of_ble_eq_true rfl) rfl ?_
  unfold f_X9_clear
  refine gm_aload_n dX9_clear_0 rfl rfl ?_
  refine gm_get dX9_clear_1 ce_7_0 rfl inX9 3 (by decide) tb_301 rfl rfl ?_
  refine gm_callVk (As := []) dX9_clear_4 (tk_X7_size w) ce_7_3 rfl cy_X7_size tb_816 rfl rfl (rm_ok (by decide) (by decide)) (Nat.le_of_ble_eq_true rfl) ?_
  refine gm_leti_st (fun u1 => ?_)
  refine gm_istore_n (lv' := [some (.ref (E.1 7 0)), some (.int (u1))]) dX9_clear_7 rfl (by decide) rfl rfl ?_
  refine gm_aload_n dX9_clear_8 rfl rfl ?_
  refine gm_get dX9_clear_9 ce_7_0 rfl inX9 3 (by decide) tb_301 rfl rfl ?_
  refine gm_callVv (As := []) dX9_clear_12 (t_X7_empty w) ce_7_3 rfl cy_X7_empty tb_824 rfl rfl (rm_ok (by decide) (by decide)) (Nat.le_of_ble_eq_true rfl) (fun q2 => ?_)
  refine gm_iload_n dX9_clear_15 rfl rfl ?_
  exact gm_iret dX9_clear_16

noncomputable def f_X9_end (w : Wd) (x1 : Int32) : Option (Int32 × Wd) :=
  (f_X0_has 0 w x1).bind fun q1 =>
  if q1.1 = 0 then
    some ((-1), q1.2)
  else
    (f_X2_push 0 q1.2).bind fun q2 =>
    (f_X4_settle 0 q2.2 x1).bind fun q3 =>
    some (q3.1, q3.2)
set_option maxRecDepth 100000 in
set_option maxHeartbeats 4000000 in
theorem t_X9_end {l : Launch} {E : En} (w : Wd) (x1 : Int32) : ∀ q, f_X9_end   w x1 = some q → Mt l E yX9_end cX9_end 2 (some .int) (rmk 6) [.ref (E.1 7 0), .int (x1)] w (eI q.1) q.2 := by
  refine Mt.of [some (.ref (E.1 7 0)), some (.int (x1))] (plainFor_of_name pn_X9) rfl (Nat.le_of_ble_eq_true rfl) rfl ?_
  unfold f_X9_end
  refine gm_aload_n dX9_end_0 rfl rfl ?_
  refine gm_get dX9_end_1 ce_7_0 rfl inX9 0 (by decide) tb_298 rfl rfl ?_
  refine gm_callVk (As := []) dX9_end_4 (tk_X4_callRows 0 (by decide) w) (ce_n_0 (n := 0) (by decide)) rfl cy_X4_callRows tb_480 rfl rfl (rm_ok (by decide) (by decide)) (Nat.le_of_ble_eq_true rfl) ?_
  refine gm_iload_n dX9_end_7 rfl rfl ?_
  refine gm_callVi (As := [.int (x1)]) dX9_end_8 (t_X0_has 0 (by decide) w x1) (ce_n_13 (n := 0) (by decide)) rfl cy_X0_has tb_635 rfl rfl (rm_ok (by decide) (by decide)) (Nat.le_of_ble_eq_true rfl) (fun q1 => ?_)
  refine gm_if_ne (tgt := 16) dX9_end_11 (by decide) ?_ ?_
  · refine gm_aload_n dX9_end_16 rfl rfl ?_
    refine gm_get dX9_end_17 ce_7_0 rfl inX9 2 (by decide) tb_300 rfl rfl ?_
    refine gm_aload_n dX9_end_20 rfl rfl ?_
    refine gm_get dX9_end_21 ce_7_0 rfl inX9 0 (by decide) tb_298 rfl rfl ?_
    refine gm_callVv (As := [.ref (E.1 0 0)]) dX9_end_24 (t_X2_push 0 (by decide) q1.2) ce_7_1 rfl cy_X2_push tb_325 rfl rfl (rm_ok (by decide) (by decide)) (Nat.le_of_ble_eq_true rfl) (fun q2 => ?_)
    refine gm_aload_n dX9_end_27 rfl rfl ?_
    refine gm_get dX9_end_28 ce_7_0 rfl inX9 0 (by decide) tb_298 rfl rfl ?_
    refine gm_iload_n dX9_end_31 rfl rfl ?_
    refine gm_callVi (As := [.int (x1)]) dX9_end_32 (t_X4_settle 0 (by decide) q2.2 x1) (ce_n_0 (n := 0) (by decide)) rfl cy_X4_settle tb_636 rfl rfl (rm_ok (by decide) (by decide)) (Nat.le_of_ble_eq_true rfl) (fun q3 => ?_)
    exact gm_iret dX9_end_35
  · refine gm_iconst (v := (-1)) dX9_end_14 (by decide) ?_
    exact gm_iret dX9_end_15

noncomputable def f_X9_fingerprint (w : Wd) : Option (Int64 × Wd) :=
  (f_X6_fold 0 w ((31 * (2449 + (Int32.toInt64 (p_X4_switchCount 0 w)))) + (Int32.toInt64 (p_X6_size 0 w)))).bind fun q1 =>
  letl ((31 * q1.1) + (Int32.toInt64 (p_X5_size 0 q1.2))) fun u2 =>
  letl ((31 * u2) + (Int32.toInt64 (p_X4_hopLimit 0 q1.2))) fun u3 =>
  letl ((31 * u3) + (Int32.toInt64 (p_X4_minutes 0 q1.2))) fun u4 =>
  letl ((31 * u4) + (Int32.toInt64 (p_X0_size 0 q1.2))) fun u5 =>
  (f_X4_foldDebts 0 q1.2 u5).bind fun q6 =>
  some (q6.1, q6.2)
set_option maxRecDepth 100000 in
set_option maxHeartbeats 4000000 in
theorem t_X9_fingerprint {l : Launch} {E : En} (w : Wd) : ∀ q, f_X9_fingerprint   w  = some q → Mt l E yX9_fingerprint cX9_fingerprint 3 (some .long) (rmk 4) [.ref (E.1 7 0)] w (eL q.1) q.2 := by
  refine Mt.of [some (.ref (E.1 7 0)), none, none] (plainFor_of_name pn_X9) rfl (Nat.le_of_ble_eq_true rfl) rfl ?_
  unfold f_X9_fingerprint
  refine gm_aload_n dX9_fingerprint_0 rfl rfl ?_
  refine gm_get dX9_fingerprint_1 ce_7_0 rfl inX9 0 (by decide) tb_298 rfl rfl ?_
  refine gm_callVk (As := []) dX9_fingerprint_4 (tk_X4_routeRows 0 (by decide) w) (ce_n_0 (n := 0) (by decide)) rfl cy_X4_routeRows tb_412 rfl rfl (rm_ok (by decide) (by decide)) (Nat.le_of_ble_eq_true rfl) ?_
  refine gm_ldc2 (v := 31) dX9_fingerprint_7 tb_921 ?_
  refine gm_ldc2 (v := 2449) dX9_fingerprint_10 tb_922 ?_
  refine gm_aload_n dX9_fingerprint_13 rfl rfl ?_
  refine gm_get dX9_fingerprint_14 ce_7_0 rfl inX9 0 (by decide) tb_298 rfl rfl ?_
  refine gm_callVk (As := []) dX9_fingerprint_17 (tk_X4_switchCount 0 (by decide) w) (ce_n_0 (n := 0) (by decide)) rfl cy_X4_switchCount tb_321 rfl rfl (rm_ok (by decide) (by decide)) (Nat.le_of_ble_eq_true rfl) ?_
  refine gm_i2l dX9_fingerprint_20 ?_
  refine gm_ladd dX9_fingerprint_21 ?_
  refine gm_lmul dX9_fingerprint_22 ?_
  refine gm_aload_n dX9_fingerprint_23 rfl rfl ?_
  refine gm_get dX9_fingerprint_24 ce_7_0 rfl inX9 0 (by decide) tb_298 rfl rfl ?_
  refine gm_callVk (As := []) dX9_fingerprint_27 (tk_X4_routeRows 0 (by decide) w) (ce_n_0 (n := 0) (by decide)) rfl cy_X4_routeRows tb_412 rfl rfl (rm_ok (by decide) (by decide)) (Nat.le_of_ble_eq_true rfl) ?_
  refine gm_callVk (As := []) dX9_fingerprint_30 (tk_X6_size 0 (by decide) w) (ce_n_3 (n := 0) (by decide)) rfl cy_X6_size tb_923 rfl rfl (rm_ok (by decide) (by decide)) (Nat.le_of_ble_eq_true rfl) ?_
  refine gm_i2l dX9_fingerprint_33 ?_
  refine gm_ladd dX9_fingerprint_34 ?_
  refine gm_callVl (As := [.long ((31 * (2449 + (Int32.toInt64 (p_X4_switchCount 0 w)))) + (Int32.toInt64 (p_X6_size 0 w)))]) dX9_fingerprint_35 (t_X6_fold 0 (by decide) w ((31 * (2449 + (Int32.toInt64 (p_X4_switchCount 0 w)))) + (Int32.toInt64 (p_X6_size 0 w)))) (ce_n_3 (n := 0) (by decide)) rfl cy_X6_fold tb_924 rfl rfl (rm_ok (by decide) (by decide)) (Nat.le_of_ble_eq_true rfl) (fun q1 => ?_)
  refine gm_lstore_n (lv' := [some (.ref (E.1 7 0)), some (.long (q1.1)), none]) dX9_fingerprint_38 rfl (by decide) rfl rfl ?_
  refine gm_ldc2 (v := 31) dX9_fingerprint_39 tb_921 ?_
  refine gm_lload_n dX9_fingerprint_42 rfl rfl ?_
  refine gm_lmul dX9_fingerprint_43 ?_
  refine gm_aload_n dX9_fingerprint_44 rfl rfl ?_
  refine gm_get dX9_fingerprint_45 ce_7_0 rfl inX9 0 (by decide) tb_298 rfl rfl ?_
  refine gm_callVk (As := []) dX9_fingerprint_48 (tk_X4_portRows 0 (by decide) q1.2) (ce_n_0 (n := 0) (by decide)) rfl cy_X4_portRows tb_458 rfl rfl (rm_ok (by decide) (by decide)) (Nat.le_of_ble_eq_true rfl) ?_
  refine gm_callVk (As := []) dX9_fingerprint_51 (tk_X5_size 0 (by decide) q1.2) (ce_n_10 (n := 0) (by decide)) rfl cy_X5_size tb_930 rfl rfl (rm_ok (by decide) (by decide)) (Nat.le_of_ble_eq_true rfl) ?_
  refine gm_i2l dX9_fingerprint_54 ?_
  refine gm_ladd dX9_fingerprint_55 ?_
  refine gm_letl_st (fun u2 => ?_)
  refine gm_lstore_n (lv' := [some (.ref (E.1 7 0)), some (.long (u2)), none]) dX9_fingerprint_56 rfl (by decide) rfl rfl ?_
  refine gm_ldc2 (v := 31) dX9_fingerprint_57 tb_921 ?_
  refine gm_lload_n dX9_fingerprint_60 rfl rfl ?_
  refine gm_lmul dX9_fingerprint_61 ?_
  refine gm_aload_n dX9_fingerprint_62 rfl rfl ?_
  refine gm_get dX9_fingerprint_63 ce_7_0 rfl inX9 0 (by decide) tb_298 rfl rfl ?_
  refine gm_callVk (As := []) dX9_fingerprint_66 (tk_X4_hopLimit 0 (by decide) q1.2) (ce_n_0 (n := 0) (by decide)) rfl cy_X4_hopLimit tb_931 rfl rfl (rm_ok (by decide) (by decide)) (Nat.le_of_ble_eq_true rfl) ?_
  refine gm_i2l dX9_fingerprint_69 ?_
  refine gm_ladd dX9_fingerprint_70 ?_
  refine gm_letl_st (fun u3 => ?_)
  refine gm_lstore_n (lv' := [some (.ref (E.1 7 0)), some (.long (u3)), none]) dX9_fingerprint_71 rfl (by decide) rfl rfl ?_
  refine gm_ldc2 (v := 31) dX9_fingerprint_72 tb_921 ?_
  refine gm_lload_n dX9_fingerprint_75 rfl rfl ?_
  refine gm_lmul dX9_fingerprint_76 ?_
  refine gm_aload_n dX9_fingerprint_77 rfl rfl ?_
  refine gm_get dX9_fingerprint_78 ce_7_0 rfl inX9 0 (by decide) tb_298 rfl rfl ?_
  refine gm_callVk (As := []) dX9_fingerprint_81 (tk_X4_minutes 0 (by decide) q1.2) (ce_n_0 (n := 0) (by decide)) rfl cy_X4_minutes tb_681 rfl rfl (rm_ok (by decide) (by decide)) (Nat.le_of_ble_eq_true rfl) ?_
  refine gm_i2l dX9_fingerprint_84 ?_
  refine gm_ladd dX9_fingerprint_85 ?_
  refine gm_letl_st (fun u4 => ?_)
  refine gm_lstore_n (lv' := [some (.ref (E.1 7 0)), some (.long (u4)), none]) dX9_fingerprint_86 rfl (by decide) rfl rfl ?_
  refine gm_ldc2 (v := 31) dX9_fingerprint_87 tb_921 ?_
  refine gm_lload_n dX9_fingerprint_90 rfl rfl ?_
  refine gm_lmul dX9_fingerprint_91 ?_
  refine gm_aload_n dX9_fingerprint_92 rfl rfl ?_
  refine gm_get dX9_fingerprint_93 ce_7_0 rfl inX9 0 (by decide) tb_298 rfl rfl ?_
  refine gm_callVk (As := []) dX9_fingerprint_96 (tk_X4_callRows 0 (by decide) q1.2) (ce_n_0 (n := 0) (by decide)) rfl cy_X4_callRows tb_480 rfl rfl (rm_ok (by decide) (by decide)) (Nat.le_of_ble_eq_true rfl) ?_
  refine gm_callVk (As := []) dX9_fingerprint_99 (tk_X0_size 0 (by decide) q1.2) (ce_n_13 (n := 0) (by decide)) rfl cy_X0_size tb_715 rfl rfl (rm_ok (by decide) (by decide)) (Nat.le_of_ble_eq_true rfl) ?_
  refine gm_i2l dX9_fingerprint_102 ?_
  refine gm_ladd dX9_fingerprint_103 ?_
  refine gm_letl_st (fun u5 => ?_)
  refine gm_lstore_n (lv' := [some (.ref (E.1 7 0)), some (.long (u5)), none]) dX9_fingerprint_104 rfl (by decide) rfl rfl ?_
  refine gm_aload_n dX9_fingerprint_105 rfl rfl ?_
  refine gm_get dX9_fingerprint_106 ce_7_0 rfl inX9 0 (by decide) tb_298 rfl rfl ?_
  refine gm_lload_n dX9_fingerprint_109 rfl rfl ?_
  refine gm_callVl (As := [.long (u5)]) dX9_fingerprint_110 (t_X4_foldDebts 0 (by decide) q1.2 u5) (ce_n_0 (n := 0) (by decide)) rfl cy_X4_foldDebts tb_932 rfl rfl (rm_ok (by decide) (by decide)) (Nat.le_of_ble_eq_true rfl) (fun q6 => ?_)
  exact gm_lret dX9_fingerprint_113

noncomputable def f_X9_owes (w : Wd) (x1 : Int32) (x2 : Int32) : Option (Int32 × Wd) :=
  if (p_X4_hasSwitch 0 w x1) = 0 then
    some ((-1), w)
  else
    if (p_X4_hasSwitch 0 w x2) = 0 then
      some ((-1), w)
    else
      (f_X4_debt 0 w x1 x2).bind fun q1 =>
      some (q1.1, q1.2)
set_option maxRecDepth 100000 in
set_option maxHeartbeats 4000000 in
theorem t_X9_owes {l : Launch} {E : En} (w : Wd) (x1 : Int32) (x2 : Int32) : ∀ q, f_X9_owes   w x1 x2 = some q → Mt l E yX9_owes cX9_owes 3 (some .int) (rmk 3) [.ref (E.1 7 0), .int (x1), .int (x2)] w (eI q.1) q.2 := by
  refine Mt.of [some (.ref (E.1 7 0)), some (.int (x1)), some (.int (x2))] (plainFor_of_name pn_X9) rfl (Nat.le_of_ble_eq_true rfl) rfl ?_
  unfold f_X9_owes
  refine gm_aload_n dX9_owes_0 rfl rfl ?_
  refine gm_get dX9_owes_1 ce_7_0 rfl inX9 0 (by decide) tb_298 rfl rfl ?_
  refine gm_iload_n dX9_owes_4 rfl rfl ?_
  refine gm_callVk (As := [.int (x1)]) dX9_owes_5 (tk_X4_hasSwitch 0 (by decide) w x1) (ce_n_0 (n := 0) (by decide)) rfl cy_X4_hasSwitch tb_366 rfl rfl (rm_ok (by decide) (by decide)) (Nat.le_of_ble_eq_true rfl) ?_
  refine gm_if_eq (tgt := 34) dX9_owes_8 (by decide) ?_ ?_
  · refine gm_iconst (v := (-1)) dX9_owes_34 (by decide) ?_
    exact gm_iret dX9_owes_35
  · refine gm_aload_n dX9_owes_11 rfl rfl ?_
    refine gm_get dX9_owes_12 ce_7_0 rfl inX9 0 (by decide) tb_298 rfl rfl ?_
    refine gm_iload_n dX9_owes_15 rfl rfl ?_
    refine gm_callVk (As := [.int (x2)]) dX9_owes_16 (tk_X4_hasSwitch 0 (by decide) w x2) (ce_n_0 (n := 0) (by decide)) rfl cy_X4_hasSwitch tb_366 rfl rfl (rm_ok (by decide) (by decide)) (Nat.le_of_ble_eq_true rfl) ?_
    refine gm_if_eq (tgt := 34) dX9_owes_19 (by decide) ?_ ?_
    · refine gm_iconst (v := (-1)) dX9_owes_34 (by decide) ?_
      exact gm_iret dX9_owes_35
    · refine gm_aload_n dX9_owes_22 rfl rfl ?_
      refine gm_get dX9_owes_23 ce_7_0 rfl inX9 0 (by decide) tb_298 rfl rfl ?_
      refine gm_iload_n dX9_owes_26 rfl rfl ?_
      refine gm_iload_n dX9_owes_27 rfl rfl ?_
      refine gm_callVi (As := [.int (x1), .int (x2)]) dX9_owes_28 (t_X4_debt 0 (by decide) w x1 x2) (ce_n_0 (n := 0) (by decide)) rfl cy_X4_debt tb_736 rfl rfl (rm_ok (by decide) (by decide)) (Nat.le_of_ble_eq_true rfl) (fun q1 => ?_)
      refine gm_goto (tgt := 35) dX9_owes_31 (by decide) ?_
      exact gm_iret dX9_owes_35

noncomputable def f_X9_pass (w : Wd) (x1 : Int32) : Option (Int32 × Wd) :=
  if (p_X9_inRange w x1 1 10080) = 0 then
    some ((-1), w)
  else
    if ((p_X4_minutes 0 w) + x1) ≤ 1000000 then
      (f_X2_push 0 w).bind fun q1 =>
      (f_X4_letPass 0 q1.2 x1).bind fun q2 =>
      some (q2.1, q2.2)
    else
      some ((-2), w)
set_option maxRecDepth 100000 in
set_option maxHeartbeats 4000000 in
theorem t_X9_pass {l : Launch} {E : En} (w : Wd) (x1 : Int32) : ∀ q, f_X9_pass   w x1 = some q → Mt l E yX9_pass cX9_pass 2 (some .int) (rmk 5) [.ref (E.1 7 0), .int (x1)] w (eI q.1) q.2 := by
  refine Mt.of [some (.ref (E.1 7 0)), some (.int (x1))] (plainFor_of_name pn_X9) rfl (Nat.le_of_ble_eq_true rfl) rfl ?_
  unfold f_X9_pass
  refine gm_iload_n dX9_pass_0 rfl rfl ?_
  refine gm_iconst (v := 1) dX9_pass_1 (by decide) ?_
  refine gm_sipush (v := 10080) dX9_pass_2 (by decide) ?_
  refine gm_callSk (As := [.int (x1), .int (1), .int (10080)]) dX9_pass_5 (tk_X9_inRange w x1 1 10080) cy_X9_inRange tb_383 rfl rfl (rm_ok (by decide) (by decide)) (Nat.le_of_ble_eq_true rfl) ?_
  refine gm_if_ne (tgt := 13) dX9_pass_8 (by decide) ?_ ?_
  · refine gm_aload_n dX9_pass_13 rfl rfl ?_
    refine gm_get dX9_pass_14 ce_7_0 rfl inX9 0 (by decide) tb_298 rfl rfl ?_
    refine gm_callVk (As := []) dX9_pass_17 (tk_X4_minutes 0 (by decide) w) (ce_n_0 (n := 0) (by decide)) rfl cy_X4_minutes tb_681 rfl rfl (rm_ok (by decide) (by decide)) (Nat.le_of_ble_eq_true rfl) ?_
    refine gm_iload_n dX9_pass_20 rfl rfl ?_
    refine gm_iadd dX9_pass_21 ?_
    refine gm_ldc (v := 1000000) dX9_pass_22 tb_682 ?_
    refine gm_icmp_le (tgt := 30) dX9_pass_24 (by decide) ?_ ?_
    · refine gm_aload_n dX9_pass_30 rfl rfl ?_
      refine gm_get dX9_pass_31 ce_7_0 rfl inX9 2 (by decide) tb_300 rfl rfl ?_
      refine gm_aload_n dX9_pass_34 rfl rfl ?_
      refine gm_get dX9_pass_35 ce_7_0 rfl inX9 0 (by decide) tb_298 rfl rfl ?_
      refine gm_callVv (As := [.ref (E.1 0 0)]) dX9_pass_38 (t_X2_push 0 (by decide) w) ce_7_1 rfl cy_X2_push tb_325 rfl rfl (rm_ok (by decide) (by decide)) (Nat.le_of_ble_eq_true rfl) (fun q1 => ?_)
      refine gm_aload_n dX9_pass_41 rfl rfl ?_
      refine gm_get dX9_pass_42 ce_7_0 rfl inX9 0 (by decide) tb_298 rfl rfl ?_
      refine gm_iload_n dX9_pass_45 rfl rfl ?_
      refine gm_callVi (As := [.int (x1)]) dX9_pass_46 (t_X4_letPass 0 (by decide) q1.2 x1) (ce_n_0 (n := 0) (by decide)) rfl cy_X4_letPass tb_683 rfl rfl (rm_ok (by decide) (by decide)) (Nat.le_of_ble_eq_true rfl) (fun q2 => ?_)
      exact gm_iret dX9_pass_49
    · refine gm_bipush (v := (-2)) dX9_pass_27 (by decide) ?_
      exact gm_iret dX9_pass_29
  · refine gm_iconst (v := (-1)) dX9_pass_11 (by decide) ?_
    exact gm_iret dX9_pass_12

noncomputable def f_X9_port (w : Wd) (x1 : Int32) (x2 : Int32) : Option (Int32 × Wd) :=
  (f_X4_portRefusal 0 w x1 x2).bind fun q1 =>
  if q1.1 = 0 then
    (f_X2_push 0 q1.2).bind fun q2 =>
    (f_X5_put 0 q2.2 x1 x2).bind fun q3 =>
    some (q3.1, q3.2)
  else
    some (q1.1, q1.2)
set_option maxRecDepth 100000 in
set_option maxHeartbeats 4000000 in
theorem t_X9_port {l : Launch} {E : En} (w : Wd) (x1 : Int32) (x2 : Int32) : ∀ q, f_X9_port   w x1 x2 = some q → Mt l E yX9_port cX9_port 4 (some .int) (rmk 5) [.ref (E.1 7 0), .int (x1), .int (x2)] w (eI q.1) q.2 := by
  refine Mt.of [some (.ref (E.1 7 0)), some (.int (x1)), some (.int (x2)), none] (plainFor_of_name pn_X9) rfl (Nat.le_of_ble_eq_true rfl) rfl ?_
  unfold f_X9_port
  refine gm_aload_n dX9_port_0 rfl rfl ?_
  refine gm_get dX9_port_1 ce_7_0 rfl inX9 0 (by decide) tb_298 rfl rfl ?_
  refine gm_iload_n dX9_port_4 rfl rfl ?_
  refine gm_iload_n dX9_port_5 rfl rfl ?_
  refine gm_callVi (As := [.int (x1), .int (x2)]) dX9_port_6 (t_X4_portRefusal 0 (by decide) w x1 x2) (ce_n_0 (n := 0) (by decide)) rfl cy_X4_portRefusal tb_438 rfl rfl (rm_ok (by decide) (by decide)) (Nat.le_of_ble_eq_true rfl) (fun q1 => ?_)
  refine gm_istore_n (lv' := [some (.ref (E.1 7 0)), some (.int (x1)), some (.int (x2)), some (.int (q1.1))]) dX9_port_9 rfl (by decide) rfl rfl ?_
  refine gm_iload_n dX9_port_10 rfl rfl ?_
  refine gm_if_eq (tgt := 16) dX9_port_11 (by decide) ?_ ?_
  · refine gm_aload_n dX9_port_16 rfl rfl ?_
    refine gm_get dX9_port_17 ce_7_0 rfl inX9 2 (by decide) tb_300 rfl rfl ?_
    refine gm_aload_n dX9_port_20 rfl rfl ?_
    refine gm_get dX9_port_21 ce_7_0 rfl inX9 0 (by decide) tb_298 rfl rfl ?_
    refine gm_callVv (As := [.ref (E.1 0 0)]) dX9_port_24 (t_X2_push 0 (by decide) q1.2) ce_7_1 rfl cy_X2_push tb_325 rfl rfl (rm_ok (by decide) (by decide)) (Nat.le_of_ble_eq_true rfl) (fun q2 => ?_)
    refine gm_aload_n dX9_port_27 rfl rfl ?_
    refine gm_get dX9_port_28 ce_7_0 rfl inX9 0 (by decide) tb_298 rfl rfl ?_
    refine gm_callVk (As := []) dX9_port_31 (tk_X4_portRows 0 (by decide) q2.2) (ce_n_0 (n := 0) (by decide)) rfl cy_X4_portRows tb_458 rfl rfl (rm_ok (by decide) (by decide)) (Nat.le_of_ble_eq_true rfl) ?_
    refine gm_iload_n dX9_port_34 rfl rfl ?_
    refine gm_iload_n dX9_port_35 rfl rfl ?_
    refine gm_callVi (As := [.int (x1), .int (x2)]) dX9_port_36 (t_X5_put 0 (by decide) q2.2 x1 x2) (ce_n_10 (n := 0) (by decide)) rfl cy_X5_put tb_462 rfl rfl (rm_ok (by decide) (by decide)) (Nat.le_of_ble_eq_true rfl) (fun q3 => ?_)
    exact gm_iret dX9_port_39
  · refine gm_iload_n dX9_port_14 rfl rfl ?_
    exact gm_iret dX9_port_15

noncomputable def f_X9_route (w : Wd) (x1 : Int32) (x2 : Int32) : Option (Int32 × Wd) :=
  (f_X6_numberOf 0 w x1 x2).bind fun q1 =>
  some (q1.1, q1.2)
set_option maxRecDepth 100000 in
set_option maxHeartbeats 4000000 in
theorem t_X9_route {l : Launch} {E : En} (w : Wd) (x1 : Int32) (x2 : Int32) : ∀ q, f_X9_route   w x1 x2 = some q → Mt l E yX9_route cX9_route 3 (some .int) (rmk 3) [.ref (E.1 7 0), .int (x1), .int (x2)] w (eI q.1) q.2 := by
  refine Mt.of [some (.ref (E.1 7 0)), some (.int (x1)), some (.int (x2))] (plainFor_of_name pn_X9) rfl (Nat.le_of_ble_eq_true rfl) rfl ?_
  unfold f_X9_route
  refine gm_aload_n dX9_route_0 rfl rfl ?_
  refine gm_get dX9_route_1 ce_7_0 rfl inX9 0 (by decide) tb_298 rfl rfl ?_
  refine gm_callVk (As := []) dX9_route_4 (tk_X4_routeRows 0 (by decide) w) (ce_n_0 (n := 0) (by decide)) rfl cy_X4_routeRows tb_412 rfl rfl (rm_ok (by decide) (by decide)) (Nat.le_of_ble_eq_true rfl) ?_
  refine gm_iload_n dX9_route_7 rfl rfl ?_
  refine gm_iload_n dX9_route_8 rfl rfl ?_
  refine gm_callVi (As := [.int (x1), .int (x2)]) dX9_route_9 (t_X6_numberOf 0 (by decide) w x1 x2) (ce_n_3 (n := 0) (by decide)) rfl cy_X6_numberOf tb_700 rfl rfl (rm_ok (by decide) (by decide)) (Nat.le_of_ble_eq_true rfl) (fun q1 => ?_)
  exact gm_iret dX9_route_12

noncomputable def b_X9_run_42 (rc42 : Wd → Int32 → Int32 → Option (Int32 × Wd)) (w : Wd) (y1 : Int32) (y2 : Int32) : Option (Int32 × Wd) :=
  if y1 ≤ y2 then
    (f_X2_push 1 w).bind fun q4 =>
    (f_X7_empty q4.2).bind fun q5 =>
    some (y1, q5.2)
  else
    (f_X7_carryOut 0 w y2).bind fun q6 =>
    if q6.1 = 0 then
      (f_X4_copyFrom 0 1 q6.2).bind fun q7 =>
      some ((-1000) - y2, q7.2)
    else
      rc42 q6.2 y1 (y2 + 1)
set_option maxRecDepth 100000 in
set_option maxHeartbeats 4000000 in
theorem kb_X9_run_42 {l : Launch} {E : En} (rc42 : Wd → Int32 → Int32 → Option (Int32 × Wd)) (hrc42 : ∀ (w : Wd) (y1 : Int32) (y2 : Int32), Gm l E cX9_run 3 RX9 (some .int) (rmk (8)) eI (rc42 w y1 y2) w 42 [some (.ref (E.1 7 0)), some (.int (y1)), some (.int (y2))] []) (w : Wd) (y1 : Int32) (y2 : Int32) : Gm l E cX9_run 3 RX9 (some .int) (rmk (8)) eI (b_X9_run_42   rc42 w y1 y2) w 42 [some (.ref (E.1 7 0)), some (.int (y1)), some (.int (y2))] [] := by
  unfold b_X9_run_42
  refine gm_iload_n dX9_run_42 rfl rfl ?_
  refine gm_iload_n dX9_run_43 rfl rfl ?_
  refine gm_icmp_ge (tgt := 85) dX9_run_44 (by decide) ?_ ?_
  · refine gm_aload_n dX9_run_85 rfl rfl ?_
    refine gm_get dX9_run_86 ce_7_0 rfl inX9 2 (by decide) tb_300 rfl rfl ?_
    refine gm_aload_n dX9_run_89 rfl rfl ?_
    refine gm_get dX9_run_90 ce_7_0 rfl inX9 1 (by decide) tb_299 rfl rfl ?_
    refine gm_callVv (As := [.ref (E.1 1 0)]) dX9_run_93 (t_X2_push 1 (by decide) w) ce_7_1 rfl cy_X2_push tb_325 rfl rfl (rm_ok (by decide) (by decide)) (Nat.le_of_ble_eq_true rfl) (fun q4 => ?_)
    refine gm_aload_n dX9_run_96 rfl rfl ?_
    refine gm_get dX9_run_97 ce_7_0 rfl inX9 3 (by decide) tb_301 rfl rfl ?_
    refine gm_callVv (As := []) dX9_run_100 (t_X7_empty q4.2) ce_7_3 rfl cy_X7_empty tb_824 rfl rfl (rm_ok (by decide) (by decide)) (Nat.le_of_ble_eq_true rfl) (fun q5 => ?_)
    refine gm_iload_n dX9_run_103 rfl rfl ?_
    exact gm_iret dX9_run_104
  · refine gm_aload_n dX9_run_47 rfl rfl ?_
    refine gm_get dX9_run_48 ce_7_0 rfl inX9 3 (by decide) tb_301 rfl rfl ?_
    refine gm_iload_n dX9_run_51 rfl rfl ?_
    refine gm_aload_n dX9_run_52 rfl rfl ?_
    refine gm_get dX9_run_53 ce_7_0 rfl inX9 0 (by decide) tb_298 rfl rfl ?_
    refine gm_callVi (As := [.int (y2), .ref (E.1 0 0)]) dX9_run_56 (t_X7_carryOut 0 (by decide) w y2) ce_7_3 rfl cy_X7_carryOut tb_881 rfl rfl (rm_ok (by decide) (by decide)) (Nat.le_of_ble_eq_true rfl) (fun q6 => ?_)
    refine gm_if_ne (tgt := 79) dX9_run_59 (by decide) ?_ ?_
    · refine gm_iinc (v := 1) (lv' := [some (.ref (E.1 7 0)), some (.int (y1)), some (.int (y2 + 1))]) dX9_run_79 rfl (by decide) (by decide) rfl rfl ?_
      refine gm_goto (tgt := 42) dX9_run_82 (by decide) ?_
      exact gm_weak (lsub_s (lsub_s (lsub_s lsub_0))) (hrc42 q6.2 y1 (y2 + 1))
    · refine gm_aload_n dX9_run_62 rfl rfl ?_
      refine gm_get dX9_run_63 ce_7_0 rfl inX9 0 (by decide) tb_298 rfl rfl ?_
      refine gm_aload_n dX9_run_66 rfl rfl ?_
      refine gm_get dX9_run_67 ce_7_0 rfl inX9 1 (by decide) tb_299 rfl rfl ?_
      refine gm_callVv (As := [.ref (E.1 1 0)]) dX9_run_70 (t_X4_copyFrom 0 1 (by decide) (by decide) q6.2) (ce_n_0 (n := 0) (by decide)) rfl cy_X4_copyFrom tb_876 rfl rfl (rm_ok (by decide) (by decide)) (Nat.le_of_ble_eq_true rfl) (fun q7 => ?_)
      refine gm_sipush (v := (-1000)) dX9_run_73 (by decide) ?_
      refine gm_iload_n dX9_run_76 rfl rfl ?_
      refine gm_isub dX9_run_77 ?_
      exact gm_iret dX9_run_78
noncomputable def h_X9_run_42 : Nat → (Wd → Int32 → Int32 → Option (Int32 × Wd))
  | 0 => fun _ _ _ => none
  | fu + 1 => b_X9_run_42    (h_X9_run_42    fu)
set_option maxRecDepth 100000 in
set_option maxHeartbeats 4000000 in
theorem k_X9_run_42 {l : Launch} {E : En} : ∀ (fu : Nat) (w : Wd) (y1 : Int32) (y2 : Int32), Gm l E cX9_run 3 RX9 (some .int) (rmk (8)) eI (h_X9_run_42    fu w y1 y2) w 42 [some (.ref (E.1 7 0)), some (.int (y1)), some (.int (y2))] []
  | 0, _, _, _ => gm_none
  | fu + 1, w, y1, y2 => kb_X9_run_42     (h_X9_run_42    fu)  (fun w y1 y2 => k_X9_run_42      fu w y1 y2) w y1 y2
noncomputable def f_X9_run (w : Wd) : Option (Int32 × Wd) :=
  (f_X7_parse w).bind fun q1 =>
  if q1.1 = 0 then
    some ((-100) - (p_X7_errorPlace q1.2), q1.2)
  else
    (f_X4_copyFrom 1 0 q1.2).bind fun q2 =>
    leti (p_X7_commandCount q2.2) fun u3 =>
    h_X9_run_42 FU q2.2 u3 0
set_option maxRecDepth 100000 in
set_option maxHeartbeats 4000000 in
theorem t_X9_run {l : Launch} {E : En} (w : Wd) : ∀ q, f_X9_run   w  = some q → Mt l E yX9_run cX9_run 3 (some .int) (rmk 8) [.ref (E.1 7 0)] w (eI q.1) q.2 := by
  refine Mt.of [some (.ref (E.1 7 0)), none, none] (plainFor_of_name pn_X9) rfl (Nat.le_of_ble_eq_true rfl) rfl ?_
  unfold f_X9_run
  refine gm_aload_n dX9_run_0 rfl rfl ?_
  refine gm_get dX9_run_1 ce_7_0 rfl inX9 3 (by decide) tb_301 rfl rfl ?_
  refine gm_callVi (As := []) dX9_run_4 (t_X7_parse w) ce_7_3 rfl cy_X7_parse tb_832 rfl rfl (rm_ok (by decide) (by decide)) (Nat.le_of_ble_eq_true rfl) (fun q1 => ?_)
  refine gm_if_ne (tgt := 21) dX9_run_7 (by decide) ?_ ?_
  · refine gm_aload_n dX9_run_21 rfl rfl ?_
    refine gm_get dX9_run_22 ce_7_0 rfl inX9 1 (by decide) tb_299 rfl rfl ?_
    refine gm_aload_n dX9_run_25 rfl rfl ?_
    refine gm_get dX9_run_26 ce_7_0 rfl inX9 0 (by decide) tb_298 rfl rfl ?_
    refine gm_callVv (As := [.ref (E.1 0 0)]) dX9_run_29 (t_X4_copyFrom 1 0 (by decide) (by decide) q1.2) (ce_n_0 (n := 1) (by decide)) rfl cy_X4_copyFrom tb_876 rfl rfl (rm_ok (by decide) (by decide)) (Nat.le_of_ble_eq_true rfl) (fun q2 => ?_)
    refine gm_aload_n dX9_run_32 rfl rfl ?_
    refine gm_get dX9_run_33 ce_7_0 rfl inX9 3 (by decide) tb_301 rfl rfl ?_
    refine gm_callVk (As := []) dX9_run_36 (tk_X7_commandCount q2.2) ce_7_3 rfl cy_X7_commandCount tb_877 rfl rfl (rm_ok (by decide) (by decide)) (Nat.le_of_ble_eq_true rfl) ?_
    refine gm_leti_st (fun u3 => ?_)
    refine gm_istore_n (lv' := [some (.ref (E.1 7 0)), some (.int (u3)), none]) dX9_run_39 rfl (by decide) rfl rfl ?_
    refine gm_iconst (v := 0) dX9_run_40 (by decide) ?_
    refine gm_istore_n (lv' := [some (.ref (E.1 7 0)), some (.int (u3)), some (.int (0))]) dX9_run_41 rfl (by decide) rfl rfl ?_
    exact gm_weak (lsub_s (lsub_s (lsub_s lsub_0))) (k_X9_run_42 FU q2.2 u3 0)
  · refine gm_bipush (v := (-100)) dX9_run_10 (by decide) ?_
    refine gm_aload_n dX9_run_12 rfl rfl ?_
    refine gm_get dX9_run_13 ce_7_0 rfl inX9 3 (by decide) tb_301 rfl rfl ?_
    refine gm_callVk (As := []) dX9_run_16 (tk_X7_errorPlace q1.2) ce_7_3 rfl cy_X7_errorPlace tb_872 rfl rfl (rm_ok (by decide) (by decide)) (Nat.le_of_ble_eq_true rfl) ?_
    refine gm_isub dX9_run_19 ?_
    exact gm_iret dX9_run_20

noncomputable def f_X9_setCodes (w : Wd) (x1 : Int32) (x2 : Int32) : Option (Int32 × Wd) :=
  if (p_X4_hasSwitch 0 w x1) = 0 then
    some ((-1), w)
  else
    if (p_X9_inRange w x2 0 62) = 0 then
      some ((-1), w)
    else
      if (x2 &&& 1) = 0 then
        (f_X2_push 0 w).bind fun q1 =>
        (f_X4_changeCodes 0 q1.2 x1 x2).bind fun q2 =>
        some (q2.1, q2.2)
      else
        some ((-1), w)
set_option maxRecDepth 100000 in
set_option maxHeartbeats 4000000 in
theorem t_X9_setCodes {l : Launch} {E : En} (w : Wd) (x1 : Int32) (x2 : Int32) : ∀ q, f_X9_setCodes   w x1 x2 = some q → Mt l E yX9_setCodes cX9_setCodes 3 (some .int) (rmk 5) [.ref (E.1 7 0), .int (x1), .int (x2)] w (eI q.1) q.2 := by
  refine Mt.of [some (.ref (E.1 7 0)), some (.int (x1)), some (.int (x2))] (plainFor_of_name pn_X9) rfl (Nat.le_of_ble_eq_true rfl) rfl ?_
  unfold f_X9_setCodes
  refine gm_aload_n dX9_setCodes_0 rfl rfl ?_
  refine gm_get dX9_setCodes_1 ce_7_0 rfl inX9 0 (by decide) tb_298 rfl rfl ?_
  refine gm_iload_n dX9_setCodes_4 rfl rfl ?_
  refine gm_callVk (As := [.int (x1)]) dX9_setCodes_5 (tk_X4_hasSwitch 0 (by decide) w x1) (ce_n_0 (n := 0) (by decide)) rfl cy_X4_hasSwitch tb_366 rfl rfl (rm_ok (by decide) (by decide)) (Nat.le_of_ble_eq_true rfl) ?_
  refine gm_if_eq (tgt := 27) dX9_setCodes_8 (by decide) ?_ ?_
  · refine gm_iconst (v := (-1)) dX9_setCodes_27 (by decide) ?_
    exact gm_iret dX9_setCodes_28
  · refine gm_iload_n dX9_setCodes_11 rfl rfl ?_
    refine gm_iconst (v := 0) dX9_setCodes_12 (by decide) ?_
    refine gm_bipush (v := 62) dX9_setCodes_13 (by decide) ?_
    refine gm_callSk (As := [.int (x2), .int (0), .int (62)]) dX9_setCodes_15 (tk_X9_inRange w x2 0 62) cy_X9_inRange tb_383 rfl rfl (rm_ok (by decide) (by decide)) (Nat.le_of_ble_eq_true rfl) ?_
    refine gm_if_eq (tgt := 27) dX9_setCodes_18 (by decide) ?_ ?_
    · refine gm_iconst (v := (-1)) dX9_setCodes_27 (by decide) ?_
      exact gm_iret dX9_setCodes_28
    · refine gm_iload_n dX9_setCodes_21 rfl rfl ?_
      refine gm_iconst (v := 1) dX9_setCodes_22 (by decide) ?_
      refine gm_iand dX9_setCodes_23 ?_
      refine gm_if_eq (tgt := 29) dX9_setCodes_24 (by decide) ?_ ?_
      · refine gm_aload_n dX9_setCodes_29 rfl rfl ?_
        refine gm_get dX9_setCodes_30 ce_7_0 rfl inX9 2 (by decide) tb_300 rfl rfl ?_
        refine gm_aload_n dX9_setCodes_33 rfl rfl ?_
        refine gm_get dX9_setCodes_34 ce_7_0 rfl inX9 0 (by decide) tb_298 rfl rfl ?_
        refine gm_callVv (As := [.ref (E.1 0 0)]) dX9_setCodes_37 (t_X2_push 0 (by decide) w) ce_7_1 rfl cy_X2_push tb_325 rfl rfl (rm_ok (by decide) (by decide)) (Nat.le_of_ble_eq_true rfl) (fun q1 => ?_)
        refine gm_aload_n dX9_setCodes_40 rfl rfl ?_
        refine gm_get dX9_setCodes_41 ce_7_0 rfl inX9 0 (by decide) tb_298 rfl rfl ?_
        refine gm_iload_n dX9_setCodes_44 rfl rfl ?_
        refine gm_iload_n dX9_setCodes_45 rfl rfl ?_
        refine gm_callVi (As := [.int (x1), .int (x2)]) dX9_setCodes_46 (t_X4_changeCodes 0 (by decide) q1.2 x1 x2) (ce_n_0 (n := 0) (by decide)) rfl cy_X4_changeCodes tb_386 rfl rfl (rm_ok (by decide) (by decide)) (Nat.le_of_ble_eq_true rfl) (fun q2 => ?_)
        exact gm_iret dX9_setCodes_49
      · refine gm_iconst (v := (-1)) dX9_setCodes_27 (by decide) ?_
        exact gm_iret dX9_setCodes_28

noncomputable def f_X9_setCost (w : Wd) (x1 : Int32) (x2 : Int32) (x3 : Int32) : Option (Int32 × Wd) :=
  if (p_X6_has 0 w x1) = 0 then
    some ((-1), w)
  else
    if (p_X9_inRange w x2 0 2) = 0 then
      some ((-1), w)
    else
      if (p_X9_inRange w x3 0 1000) = 0 then
        some ((-1), w)
      else
        (f_X2_push 0 w).bind fun q1 =>
        (f_X6_changeCost 0 q1.2 x1 x2 x3).bind fun q2 =>
        some (q2.1, q2.2)
set_option maxRecDepth 100000 in
set_option maxHeartbeats 4000000 in
theorem t_X9_setCost {l : Launch} {E : En} (w : Wd) (x1 : Int32) (x2 : Int32) (x3 : Int32) : ∀ q, f_X9_setCost   w x1 x2 x3 = some q → Mt l E yX9_setCost cX9_setCost 4 (some .int) (rmk 5) [.ref (E.1 7 0), .int (x1), .int (x2), .int (x3)] w (eI q.1) q.2 := by
  refine Mt.of [some (.ref (E.1 7 0)), some (.int (x1)), some (.int (x2)), some (.int (x3))] (plainFor_of_name pn_X9) rfl (Nat.le_of_ble_eq_true rfl) rfl ?_
  unfold f_X9_setCost
  refine gm_aload_n dX9_setCost_0 rfl rfl ?_
  refine gm_get dX9_setCost_1 ce_7_0 rfl inX9 0 (by decide) tb_298 rfl rfl ?_
  refine gm_callVk (As := []) dX9_setCost_4 (tk_X4_routeRows 0 (by decide) w) (ce_n_0 (n := 0) (by decide)) rfl cy_X4_routeRows tb_412 rfl rfl (rm_ok (by decide) (by decide)) (Nat.le_of_ble_eq_true rfl) ?_
  refine gm_iload_n dX9_setCost_7 rfl rfl ?_
  refine gm_callVk (As := [.int (x1)]) dX9_setCost_8 (tk_X6_has 0 (by decide) w x1) (ce_n_3 (n := 0) (by decide)) rfl cy_X6_has tb_424 rfl rfl (rm_ok (by decide) (by decide)) (Nat.le_of_ble_eq_true rfl) ?_
  refine gm_if_eq (tgt := 34) dX9_setCost_11 (by decide) ?_ ?_
  · refine gm_iconst (v := (-1)) dX9_setCost_34 (by decide) ?_
    exact gm_iret dX9_setCost_35
  · refine gm_iload_n dX9_setCost_14 rfl rfl ?_
    refine gm_iconst (v := 0) dX9_setCost_15 (by decide) ?_
    refine gm_iconst (v := 2) dX9_setCost_16 (by decide) ?_
    refine gm_callSk (As := [.int (x2), .int (0), .int (2)]) dX9_setCost_17 (tk_X9_inRange w x2 0 2) cy_X9_inRange tb_383 rfl rfl (rm_ok (by decide) (by decide)) (Nat.le_of_ble_eq_true rfl) ?_
    refine gm_if_eq (tgt := 34) dX9_setCost_20 (by decide) ?_ ?_
    · refine gm_iconst (v := (-1)) dX9_setCost_34 (by decide) ?_
      exact gm_iret dX9_setCost_35
    · refine gm_iload_n dX9_setCost_23 rfl rfl ?_
      refine gm_iconst (v := 0) dX9_setCost_24 (by decide) ?_
      refine gm_sipush (v := 1000) dX9_setCost_25 (by decide) ?_
      refine gm_callSk (As := [.int (x3), .int (0), .int (1000)]) dX9_setCost_28 (tk_X9_inRange w x3 0 1000) cy_X9_inRange tb_383 rfl rfl (rm_ok (by decide) (by decide)) (Nat.le_of_ble_eq_true rfl) ?_
      refine gm_if_ne (tgt := 36) dX9_setCost_31 (by decide) ?_ ?_
      · refine gm_aload_n dX9_setCost_36 rfl rfl ?_
        refine gm_get dX9_setCost_37 ce_7_0 rfl inX9 2 (by decide) tb_300 rfl rfl ?_
        refine gm_aload_n dX9_setCost_40 rfl rfl ?_
        refine gm_get dX9_setCost_41 ce_7_0 rfl inX9 0 (by decide) tb_298 rfl rfl ?_
        refine gm_callVv (As := [.ref (E.1 0 0)]) dX9_setCost_44 (t_X2_push 0 (by decide) w) ce_7_1 rfl cy_X2_push tb_325 rfl rfl (rm_ok (by decide) (by decide)) (Nat.le_of_ble_eq_true rfl) (fun q1 => ?_)
        refine gm_aload_n dX9_setCost_47 rfl rfl ?_
        refine gm_get dX9_setCost_48 ce_7_0 rfl inX9 0 (by decide) tb_298 rfl rfl ?_
        refine gm_callVk (As := []) dX9_setCost_51 (tk_X4_routeRows 0 (by decide) q1.2) (ce_n_0 (n := 0) (by decide)) rfl cy_X4_routeRows tb_412 rfl rfl (rm_ok (by decide) (by decide)) (Nat.le_of_ble_eq_true rfl) ?_
        refine gm_iload_n dX9_setCost_54 rfl rfl ?_
        refine gm_iload_n dX9_setCost_55 rfl rfl ?_
        refine gm_iload_n dX9_setCost_56 rfl rfl ?_
        refine gm_callVi (As := [.int (x1), .int (x2), .int (x3)]) dX9_setCost_57 (t_X6_changeCost 0 (by decide) q1.2 x1 x2 x3) (ce_n_3 (n := 0) (by decide)) rfl cy_X6_changeCost tb_428 rfl rfl (rm_ok (by decide) (by decide)) (Nat.le_of_ble_eq_true rfl) (fun q2 => ?_)
        exact gm_iret dX9_setCost_60
      · refine gm_iconst (v := (-1)) dX9_setCost_34 (by decide) ?_
        exact gm_iret dX9_setCost_35

noncomputable def f_X9_setLimit (w : Wd) (x1 : Int32) : Option (Int32 × Wd) :=
  if (p_X9_inRange w x1 1 6) = 0 then
    some ((-1), w)
  else
    (f_X2_push 0 w).bind fun q1 =>
    (f_X4_changeLimit 0 q1.2 x1).bind fun q2 =>
    some (q2.1, q2.2)
set_option maxRecDepth 100000 in
set_option maxHeartbeats 4000000 in
theorem t_X9_setLimit {l : Launch} {E : En} (w : Wd) (x1 : Int32) : ∀ q, f_X9_setLimit   w x1 = some q → Mt l E yX9_setLimit cX9_setLimit 2 (some .int) (rmk 5) [.ref (E.1 7 0), .int (x1)] w (eI q.1) q.2 := by
  refine Mt.of [some (.ref (E.1 7 0)), some (.int (x1))] (plainFor_of_name pn_X9) rfl (Nat.le_of_ble_eq_true rfl) rfl ?_
  unfold f_X9_setLimit
  refine gm_iload_n dX9_setLimit_0 rfl rfl ?_
  refine gm_iconst (v := 1) dX9_setLimit_1 (by decide) ?_
  refine gm_bipush (v := 6) dX9_setLimit_2 (by decide) ?_
  refine gm_callSk (As := [.int (x1), .int (1), .int (6)]) dX9_setLimit_4 (tk_X9_inRange w x1 1 6) cy_X9_inRange tb_383 rfl rfl (rm_ok (by decide) (by decide)) (Nat.le_of_ble_eq_true rfl) ?_
  refine gm_if_ne (tgt := 12) dX9_setLimit_7 (by decide) ?_ ?_
  · refine gm_aload_n dX9_setLimit_12 rfl rfl ?_
    refine gm_get dX9_setLimit_13 ce_7_0 rfl inX9 2 (by decide) tb_300 rfl rfl ?_
    refine gm_aload_n dX9_setLimit_16 rfl rfl ?_
    refine gm_get dX9_setLimit_17 ce_7_0 rfl inX9 0 (by decide) tb_298 rfl rfl ?_
    refine gm_callVv (As := [.ref (E.1 0 0)]) dX9_setLimit_20 (t_X2_push 0 (by decide) w) ce_7_1 rfl cy_X2_push tb_325 rfl rfl (rm_ok (by decide) (by decide)) (Nat.le_of_ble_eq_true rfl) (fun q1 => ?_)
    refine gm_aload_n dX9_setLimit_23 rfl rfl ?_
    refine gm_get dX9_setLimit_24 ce_7_0 rfl inX9 0 (by decide) tb_298 rfl rfl ?_
    refine gm_iload_n dX9_setLimit_27 rfl rfl ?_
    refine gm_callVi (As := [.int (x1)]) dX9_setLimit_28 (t_X4_changeLimit 0 (by decide) q1.2 x1) (ce_n_0 (n := 0) (by decide)) rfl cy_X4_changeLimit tb_394 rfl rfl (rm_ok (by decide) (by decide)) (Nat.le_of_ble_eq_true rfl) (fun q2 => ?_)
    exact gm_iret dX9_setLimit_31
  · refine gm_iconst (v := (-1)) dX9_setLimit_10 (by decide) ?_
    exact gm_iret dX9_setLimit_11

noncomputable def f_X9_setLookup (w : Wd) (x1 : Int32) (x2 : Int32) : Option (Int32 × Wd) :=
  if (p_X4_hasSwitch 0 w x1) = 0 then
    some ((-1), w)
  else
    (f_X2_push 0 w).bind fun q1 =>
    leti (p_X4_looksUp 0 q1.2 x1) fun u2 =>
    (f_X4_changeLookup 0 q1.2 x1 x2).bind fun q3 =>
    if u2 = 0 then
      some (0, q3.2)
    else
      some (1, q3.2)
set_option maxRecDepth 100000 in
set_option maxHeartbeats 4000000 in
theorem t_X9_setLookup {l : Launch} {E : En} (w : Wd) (x1 : Int32) (x2 : Int32) : ∀ q, f_X9_setLookup   w x1 x2 = some q → Mt l E yX9_setLookup cX9_setLookup 4 (some .int) (rmk 5) [.ref (E.1 7 0), .int (x1), .int (x2)] w (eI q.1) q.2 := by
  refine Mt.of [some (.ref (E.1 7 0)), some (.int (x1)), some (.int (x2)), none] (plainFor_of_name pn_X9) rfl (Nat.le_of_ble_eq_true rfl) rfl ?_
  unfold f_X9_setLookup
  refine gm_aload_n dX9_setLookup_0 rfl rfl ?_
  refine gm_get dX9_setLookup_1 ce_7_0 rfl inX9 0 (by decide) tb_298 rfl rfl ?_
  refine gm_iload_n dX9_setLookup_4 rfl rfl ?_
  refine gm_callVk (As := [.int (x1)]) dX9_setLookup_5 (tk_X4_hasSwitch 0 (by decide) w x1) (ce_n_0 (n := 0) (by decide)) rfl cy_X4_hasSwitch tb_366 rfl rfl (rm_ok (by decide) (by decide)) (Nat.le_of_ble_eq_true rfl) ?_
  refine gm_if_ne (tgt := 13) dX9_setLookup_8 (by decide) ?_ ?_
  · refine gm_aload_n dX9_setLookup_13 rfl rfl ?_
    refine gm_get dX9_setLookup_14 ce_7_0 rfl inX9 2 (by decide) tb_300 rfl rfl ?_
    refine gm_aload_n dX9_setLookup_17 rfl rfl ?_
    refine gm_get dX9_setLookup_18 ce_7_0 rfl inX9 0 (by decide) tb_298 rfl rfl ?_
    refine gm_callVv (As := [.ref (E.1 0 0)]) dX9_setLookup_21 (t_X2_push 0 (by decide) w) ce_7_1 rfl cy_X2_push tb_325 rfl rfl (rm_ok (by decide) (by decide)) (Nat.le_of_ble_eq_true rfl) (fun q1 => ?_)
    refine gm_aload_n dX9_setLookup_24 rfl rfl ?_
    refine gm_get dX9_setLookup_25 ce_7_0 rfl inX9 0 (by decide) tb_298 rfl rfl ?_
    refine gm_iload_n dX9_setLookup_28 rfl rfl ?_
    refine gm_callVk (As := [.int (x1)]) dX9_setLookup_29 (tk_X4_looksUp 0 (by decide) q1.2 x1) (ce_n_0 (n := 0) (by decide)) rfl cy_X4_looksUp tb_370 rfl rfl (rm_ok (by decide) (by decide)) (Nat.le_of_ble_eq_true rfl) ?_
    refine gm_leti_st (fun u2 => ?_)
    refine gm_istore_n (lv' := [some (.ref (E.1 7 0)), some (.int (x1)), some (.int (x2)), some (.int (u2))]) dX9_setLookup_32 rfl (by decide) rfl rfl ?_
    refine gm_aload_n dX9_setLookup_33 rfl rfl ?_
    refine gm_get dX9_setLookup_34 ce_7_0 rfl inX9 0 (by decide) tb_298 rfl rfl ?_
    refine gm_iload_n dX9_setLookup_37 rfl rfl ?_
    refine gm_iload_n dX9_setLookup_38 rfl rfl ?_
    refine gm_callVv (As := [.int (x1), .int (x2)]) dX9_setLookup_39 (t_X4_changeLookup 0 (by decide) q1.2 x1 x2) (ce_n_0 (n := 0) (by decide)) rfl cy_X4_changeLookup tb_375 rfl rfl (rm_ok (by decide) (by decide)) (Nat.le_of_ble_eq_true rfl) (fun q3 => ?_)
    refine gm_iload_n dX9_setLookup_42 rfl rfl ?_
    refine gm_if_eq (tgt := 50) dX9_setLookup_43 (by decide) ?_ ?_
    · refine gm_iconst (v := 0) dX9_setLookup_50 (by decide) ?_
      exact gm_iret dX9_setLookup_51
    · refine gm_iconst (v := 1) dX9_setLookup_46 (by decide) ?_
      refine gm_goto (tgt := 51) dX9_setLookup_47 (by decide) ?_
      exact gm_iret dX9_setLookup_51
  · refine gm_iconst (v := (-1)) dX9_setLookup_11 (by decide) ?_
    exact gm_iret dX9_setLookup_12

noncomputable def f_X9_time (w : Wd) : Option (Int32 × Wd) :=
  some (p_X4_minutes 0 w, w)
set_option maxRecDepth 100000 in
set_option maxHeartbeats 4000000 in
theorem t_X9_time {l : Launch} {E : En} (w : Wd) : ∀ q, f_X9_time   w  = some q → Mt l E yX9_time cX9_time 1 (some .int) (rmk 2) [.ref (E.1 7 0)] w (eI q.1) q.2 := by
  refine Mt.of [some (.ref (E.1 7 0))] (plainFor_of_name pn_X9) rfl (Nat.le_of_ble_eq_true rfl) rfl ?_
  unfold f_X9_time
  refine gm_aload_n dX9_time_0 rfl rfl ?_
  refine gm_get dX9_time_1 ce_7_0 rfl inX9 0 (by decide) tb_298 rfl rfl ?_
  refine gm_callVk (As := []) dX9_time_4 (tk_X4_minutes 0 (by decide) w) (ce_n_0 (n := 0) (by decide)) rfl cy_X4_minutes tb_681 rfl rfl (rm_ok (by decide) (by decide)) (Nat.le_of_ble_eq_true rfl) ?_
  exact gm_iret dX9_time_7
noncomputable def p_X9_time (w : Wd) : Int32 :=
  p_X4_minutes 0 w
theorem fp_X9_time (w : Wd) : f_X9_time  w  = some (p_X9_time  w , w) := by
  unfold f_X9_time p_X9_time
  (try simp only [leti, letl])
  repeat' (first | rfl | split)
theorem tk_X9_time {l : Launch} {E : En} (w : Wd) : Mt l E yX9_time cX9_time 1 (some .int) (rmk 2) [.ref (E.1 7 0)] w (some (.int (p_X9_time  w ))) w := t_X9_time   w  _ (fp_X9_time  w )

noncomputable def f_X9_type (w : Wd) (x1 : Int32) : Option (Int32 × Wd) :=
  if (p_X9_inRange w x1 32 126) = 0 then
    some ((-1), w)
  else
    (f_X7_append w ((Int32.toUInt32 x1 % 65536).toInt32)).bind fun q1 =>
    if q1.1 = 0 then
      some ((-3), q1.2)
    else
      some (p_X7_size q1.2, q1.2)
set_option maxRecDepth 100000 in
set_option maxHeartbeats 4000000 in
theorem t_X9_type {l : Launch} {E : En} (w : Wd) (x1 : Int32) : ∀ q, f_X9_type   w x1 = some q → Mt l E yX9_type cX9_type 2 (some .int) (rmk 2) [.ref (E.1 7 0), .int (x1)] w (eI q.1) q.2 := by
  refine Mt.of [some (.ref (E.1 7 0)), some (.int (x1))] (plainFor_of_name pn_X9) rfl (Nat.le_of_ble_eq_true rfl) rfl ?_
  unfold f_X9_type
  refine gm_iload_n dX9_type_0 rfl rfl ?_
  refine gm_bipush (v := 32) dX9_type_1 (by decide) ?_
  refine gm_bipush (v := 126) dX9_type_3 (by decide) ?_
  refine gm_callSk (As := [.int (x1), .int (32), .int (126)]) dX9_type_5 (tk_X9_inRange w x1 32 126) cy_X9_inRange tb_383 rfl rfl (rm_ok (by decide) (by decide)) (Nat.le_of_ble_eq_true rfl) ?_
  refine gm_if_ne (tgt := 13) dX9_type_8 (by decide) ?_ ?_
  · refine gm_aload_n dX9_type_13 rfl rfl ?_
    refine gm_get dX9_type_14 ce_7_0 rfl inX9 3 (by decide) tb_301 rfl rfl ?_
    refine gm_iload_n dX9_type_17 rfl rfl ?_
    refine gm_i2c dX9_type_18 ?_
    refine gm_callVi (As := [.int ((Int32.toUInt32 x1 % 65536).toInt32)]) dX9_type_19 (t_X7_append w ((Int32.toUInt32 x1 % 65536).toInt32)) ce_7_3 rfl cy_X7_append tb_812 rfl rfl (rm_ok (by decide) (by decide)) (Nat.le_of_ble_eq_true rfl) (fun q1 => ?_)
    refine gm_if_eq (tgt := 35) dX9_type_22 (by decide) ?_ ?_
    · refine gm_bipush (v := (-3)) dX9_type_35 (by decide) ?_
      exact gm_iret dX9_type_37
    · refine gm_aload_n dX9_type_25 rfl rfl ?_
      refine gm_get dX9_type_26 ce_7_0 rfl inX9 3 (by decide) tb_301 rfl rfl ?_
      refine gm_callVk (As := []) dX9_type_29 (tk_X7_size q1.2) ce_7_3 rfl cy_X7_size tb_816 rfl rfl (rm_ok (by decide) (by decide)) (Nat.le_of_ble_eq_true rfl) ?_
      refine gm_goto (tgt := 37) dX9_type_32 (by decide) ?_
      exact gm_iret dX9_type_37
  · refine gm_iconst (v := (-1)) dX9_type_11 (by decide) ?_
    exact gm_iret dX9_type_12

noncomputable def f_X9_undo (w : Wd) : Option (Int32 × Wd) :=
  (f_X2_pop 0 w).bind fun q1 =>
  if q1.1 = 0 then
    some ((-9), q1.2)
  else
    some (p_X2_size q1.2, q1.2)
set_option maxRecDepth 100000 in
set_option maxHeartbeats 4000000 in
theorem t_X9_undo {l : Launch} {E : En} (w : Wd) : ∀ q, f_X9_undo   w  = some q → Mt l E yX9_undo cX9_undo 1 (some .int) (rmk 5) [.ref (E.1 7 0)] w (eI q.1) q.2 := by
  refine Mt.of [some (.ref (E.1 7 0))] (plainFor_of_name pn_X9) rfl (Nat.le_of_ble_eq_true rfl) rfl ?_
  unfold f_X9_undo
  refine gm_aload_n dX9_undo_0 rfl rfl ?_
  refine gm_get dX9_undo_1 ce_7_0 rfl inX9 2 (by decide) tb_300 rfl rfl ?_
  refine gm_aload_n dX9_undo_4 rfl rfl ?_
  refine gm_get dX9_undo_5 ce_7_0 rfl inX9 0 (by decide) tb_298 rfl rfl ?_
  refine gm_callVi (As := [.ref (E.1 0 0)]) dX9_undo_8 (t_X2_pop 0 (by decide) w) ce_7_1 rfl cy_X2_pop tb_909 rfl rfl (rm_ok (by decide) (by decide)) (Nat.le_of_ble_eq_true rfl) (fun q1 => ?_)
  refine gm_if_eq (tgt := 24) dX9_undo_11 (by decide) ?_ ?_
  · refine gm_bipush (v := (-9)) dX9_undo_24 (by decide) ?_
    exact gm_iret dX9_undo_26
  · refine gm_aload_n dX9_undo_14 rfl rfl ?_
    refine gm_get dX9_undo_15 ce_7_0 rfl inX9 2 (by decide) tb_300 rfl rfl ?_
    refine gm_callVk (As := []) dX9_undo_18 (tk_X2_size q1.2) ce_7_1 rfl cy_X2_size tb_913 rfl rfl (rm_ok (by decide) (by decide)) (Nat.le_of_ble_eq_true rfl) ?_
    refine gm_goto (tgt := 26) dX9_undo_21 (by decide) ?_
    exact gm_iret dX9_undo_26

noncomputable def f_X9_unport (w : Wd) (x1 : Int32) : Option (Int32 × Wd) :=
  (f_X9_isNumber w x1).bind fun q1 =>
  if q1.1 = 0 then
    some ((-1), q1.2)
  else
    (f_X5_switchOf 0 q1.2 x1).bind fun q2 =>
    if q2.1 = (-9) then
      some ((-9), q2.2)
    else
      (f_X2_push 0 q2.2).bind fun q3 =>
      (f_X5_remove 0 q3.2 x1).bind fun q4 =>
      some (q4.1, q4.2)
set_option maxRecDepth 100000 in
set_option maxHeartbeats 4000000 in
theorem t_X9_unport {l : Launch} {E : En} (w : Wd) (x1 : Int32) : ∀ q, f_X9_unport   w x1 = some q → Mt l E yX9_unport cX9_unport 2 (some .int) (rmk 5) [.ref (E.1 7 0), .int (x1)] w (eI q.1) q.2 := by
  refine Mt.of [some (.ref (E.1 7 0)), some (.int (x1))] (plainFor_of_name pn_X9) rfl (Nat.le_of_ble_eq_true rfl) rfl ?_
  unfold f_X9_unport
  refine gm_iload_n dX9_unport_0 rfl rfl ?_
  refine gm_callSi (As := [.int (x1)]) dX9_unport_1 (t_X9_isNumber w x1) cy_X9_isNumber tb_470 rfl rfl (rm_ok (by decide) (by decide)) (Nat.le_of_ble_eq_true rfl) (fun q1 => ?_)
  refine gm_if_ne (tgt := 9) dX9_unport_4 (by decide) ?_ ?_
  · refine gm_aload_n dX9_unport_9 rfl rfl ?_
    refine gm_get dX9_unport_10 ce_7_0 rfl inX9 0 (by decide) tb_298 rfl rfl ?_
    refine gm_callVk (As := []) dX9_unport_13 (tk_X4_portRows 0 (by decide) q1.2) (ce_n_0 (n := 0) (by decide)) rfl cy_X4_portRows tb_458 rfl rfl (rm_ok (by decide) (by decide)) (Nat.le_of_ble_eq_true rfl) ?_
    refine gm_iload_n dX9_unport_16 rfl rfl ?_
    refine gm_callVi (As := [.int (x1)]) dX9_unport_17 (t_X5_switchOf 0 (by decide) q1.2 x1) (ce_n_10 (n := 0) (by decide)) rfl cy_X5_switchOf tb_471 rfl rfl (rm_ok (by decide) (by decide)) (Nat.le_of_ble_eq_true rfl) (fun q2 => ?_)
    refine gm_bipush (v := (-9)) dX9_unport_20 (by decide) ?_
    refine gm_icmp_ne (tgt := 28) dX9_unport_22 (by decide) ?_ ?_
    · refine gm_aload_n dX9_unport_28 rfl rfl ?_
      refine gm_get dX9_unport_29 ce_7_0 rfl inX9 2 (by decide) tb_300 rfl rfl ?_
      refine gm_aload_n dX9_unport_32 rfl rfl ?_
      refine gm_get dX9_unport_33 ce_7_0 rfl inX9 0 (by decide) tb_298 rfl rfl ?_
      refine gm_callVv (As := [.ref (E.1 0 0)]) dX9_unport_36 (t_X2_push 0 (by decide) q2.2) ce_7_1 rfl cy_X2_push tb_325 rfl rfl (rm_ok (by decide) (by decide)) (Nat.le_of_ble_eq_true rfl) (fun q3 => ?_)
      refine gm_aload_n dX9_unport_39 rfl rfl ?_
      refine gm_get dX9_unport_40 ce_7_0 rfl inX9 0 (by decide) tb_298 rfl rfl ?_
      refine gm_callVk (As := []) dX9_unport_43 (tk_X4_portRows 0 (by decide) q3.2) (ce_n_0 (n := 0) (by decide)) rfl cy_X4_portRows tb_458 rfl rfl (rm_ok (by decide) (by decide)) (Nat.le_of_ble_eq_true rfl) ?_
      refine gm_iload_n dX9_unport_46 rfl rfl ?_
      refine gm_callVi (As := [.int (x1)]) dX9_unport_47 (t_X5_remove 0 (by decide) q3.2 x1) (ce_n_10 (n := 0) (by decide)) rfl cy_X5_remove tb_472 rfl rfl (rm_ok (by decide) (by decide)) (Nat.le_of_ble_eq_true rfl) (fun q4 => ?_)
      exact gm_iret dX9_unport_50
    · refine gm_bipush (v := (-9)) dX9_unport_25 (by decide) ?_
      exact gm_iret dX9_unport_27
  · refine gm_iconst (v := (-1)) dX9_unport_7 (by decide) ?_
    exact gm_iret dX9_unport_8

noncomputable def f_X9_way (w : Wd) (x1 : Int32) (x2 : Int32) : Option (Int32 × Wd) :=
  (f_X0_has 0 w x1).bind fun q1 =>
  if q1.1 = 0 then
    some ((-1), q1.2)
  else
    if 0 ≤ x2 then
      (f_X0_step 0 q1.2 x1 x2).bind fun q2 =>
      some (q2.1, q2.2)
    else
      some ((-1), q1.2)
set_option maxRecDepth 100000 in
set_option maxHeartbeats 4000000 in
theorem t_X9_way {l : Launch} {E : En} (w : Wd) (x1 : Int32) (x2 : Int32) : ∀ q, f_X9_way   w x1 x2 = some q → Mt l E yX9_way cX9_way 3 (some .int) (rmk 4) [.ref (E.1 7 0), .int (x1), .int (x2)] w (eI q.1) q.2 := by
  refine Mt.of [some (.ref (E.1 7 0)), some (.int (x1)), some (.int (x2))] (plainFor_of_name pn_X9) rfl (Nat.le_of_ble_eq_true rfl) rfl ?_
  unfold f_X9_way
  refine gm_aload_n dX9_way_0 rfl rfl ?_
  refine gm_get dX9_way_1 ce_7_0 rfl inX9 0 (by decide) tb_298 rfl rfl ?_
  refine gm_callVk (As := []) dX9_way_4 (tk_X4_callRows 0 (by decide) w) (ce_n_0 (n := 0) (by decide)) rfl cy_X4_callRows tb_480 rfl rfl (rm_ok (by decide) (by decide)) (Nat.le_of_ble_eq_true rfl) ?_
  refine gm_iload_n dX9_way_7 rfl rfl ?_
  refine gm_callVi (As := [.int (x1)]) dX9_way_8 (t_X0_has 0 (by decide) w x1) (ce_n_13 (n := 0) (by decide)) rfl cy_X0_has tb_635 rfl rfl (rm_ok (by decide) (by decide)) (Nat.le_of_ble_eq_true rfl) (fun q1 => ?_)
  refine gm_if_eq (tgt := 18) dX9_way_11 (by decide) ?_ ?_
  · refine gm_iconst (v := (-1)) dX9_way_18 (by decide) ?_
    exact gm_iret dX9_way_19
  · refine gm_iload_n dX9_way_14 rfl rfl ?_
    refine gm_if_ge (tgt := 20) dX9_way_15 (by decide) ?_ ?_
    · refine gm_aload_n dX9_way_20 rfl rfl ?_
      refine gm_get dX9_way_21 ce_7_0 rfl inX9 0 (by decide) tb_298 rfl rfl ?_
      refine gm_callVk (As := []) dX9_way_24 (tk_X4_callRows 0 (by decide) q1.2) (ce_n_0 (n := 0) (by decide)) rfl cy_X4_callRows tb_480 rfl rfl (rm_ok (by decide) (by decide)) (Nat.le_of_ble_eq_true rfl) ?_
      refine gm_iload_n dX9_way_27 rfl rfl ?_
      refine gm_iload_n dX9_way_28 rfl rfl ?_
      refine gm_callVi (As := [.int (x1), .int (x2)]) dX9_way_29 (t_X0_step 0 (by decide) q1.2 x1 x2) (ce_n_13 (n := 0) (by decide)) rfl cy_X0_step tb_723 rfl rfl (rm_ok (by decide) (by decide)) (Nat.le_of_ble_eq_true rfl) (fun q2 => ?_)
      exact gm_iret dX9_way_32
    · refine gm_iconst (v := (-1)) dX9_way_18 (by decide) ?_
      exact gm_iret dX9_way_19
