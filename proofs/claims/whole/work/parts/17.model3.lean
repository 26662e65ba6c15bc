noncomputable def f_X10_owes (w : Wd) (x1 : Int32) (x2 : Int32) : Option (Int32 × Wd) :=
  (f_X10_isSwitch w x1).bind fun q1 =>
  if q1.1 = 0 then
    some ((-1), q1.2)
  else
    (f_X10_isSwitch q1.2 x2).bind fun q2 =>
    if q2.1 = 0 then
      some ((-1), q2.2)
    else
      if ib ((570 + (8 * x1)) + x2) 640 = true then
      some (q2.2 8 1 (Int32.toNatClampNeg ((570 + (8 * x1)) + x2)), q2.2)
      else none
set_option maxRecDepth 100000 in
set_option maxHeartbeats 4000000 in
theorem t_X10_owes {l : Launch} {E : En} (w : Wd) (x1 : Int32) (x2 : Int32) : ∀ q, f_X10_owes   w x1 x2 = some q → Mt l E yX10_owes cX10_owes 3 (some .int) (rmk 3) [.ref (E.1 8 0), .int (x1), .int (x2)] w (eI q.1) q.2 := by
  refine Mt.of [some (.ref (E.1 8 0)), some (.int (x1)), some (.int (x2))] (plainFor_of_name pn_X10) rfl (Nat.le_of_ble_eq_true rfl) rfl ?_
  unfold f_X10_owes
  refine gm_aload_n dX10_owes_0 rfl rfl ?_
  refine gm_iload_n dX10_owes_1 rfl rfl ?_
  refine gm_callVi (As := [.int (x1)]) dX10_owes_2 (t_X10_isSwitch w x1) ce_8_0 rfl cy_X10_isSwitch tb_1029 rfl rfl (rm_ok (by decide) (by decide)) (Nat.le_of_ble_eq_true rfl) (fun q1 => ?_)
  refine gm_if_eq (tgt := 34) dX10_owes_5 (by decide) ?_ ?_
  · refine gm_iconst (v := (-1)) dX10_owes_34 (by decide) ?_
    exact gm_iret dX10_owes_35
  · refine gm_aload_n dX10_owes_8 rfl rfl ?_
    refine gm_iload_n dX10_owes_9 rfl rfl ?_
    refine gm_callVi (As := [.int (x2)]) dX10_owes_10 (t_X10_isSwitch q1.2 x2) ce_8_0 rfl cy_X10_isSwitch tb_1029 rfl rfl (rm_ok (by decide) (by decide)) (Nat.le_of_ble_eq_true rfl) (fun q2 => ?_)
    refine gm_if_eq (tgt := 34) dX10_owes_13 (by decide) ?_ ?_
    · refine gm_iconst (v := (-1)) dX10_owes_34 (by decide) ?_
      exact gm_iret dX10_owes_35
    · refine gm_aload_n dX10_owes_16 rfl rfl ?_
      refine gm_get dX10_owes_17 ce_8_0 rfl inX10 0 (by decide) tb_944 rfl rfl ?_
      refine gm_sipush (v := 570) dX10_owes_20 (by decide) ?_
      refine gm_bipush (v := 8) dX10_owes_23 (by decide) ?_
      refine gm_iload_n dX10_owes_25 rfl rfl ?_
      refine gm_imul dX10_owes_26 ?_
      refine gm_iadd dX10_owes_27 ?_
      refine gm_iload_n dX10_owes_28 rfl rfl ?_
      refine gm_iadd dX10_owes_29 ?_
      refine gm_iald dX10_owes_30 ce_8_1 ?_
      refine gm_goto (tgt := 35) dX10_owes_31 (by decide) ?_
      exact gm_iret dX10_owes_35

noncomputable def f_X10_pass (w : Wd) (x1 : Int32) : Option (Int32 × Wd) :=
  if (p_X10_in w x1 1 10080) = 0 then
    some ((-1), w)
  else
    if ib 4 640 = true then
    if ((w 8 1 (Int32.toNatClampNeg 4)) + x1) ≤ 1000000 then
      (f_X10_keeps 1 w).bind fun q1 =>
      if ib 4 640 = true then
      if ib 4 640 = true then
      letw (wup q1.2 8 1 (Int32.toNatClampNeg 4) ((q1.2 8 1 (Int32.toNatClampNeg 4)) + x1)) fun w2 =>
      if ib 4 640 = true then
      some (w2 8 1 (Int32.toNatClampNeg 4), w2)
      else none
      else none
      else none
    else
      some ((-2), w)
    else none
set_option maxRecDepth 100000 in
set_option maxHeartbeats 4000000 in
theorem t_X10_pass {l : Launch} {E : En} (w : Wd) (x1 : Int32) : ∀ q, f_X10_pass   w x1 = some q → Mt l E yX10_pass cX10_pass 2 (some .int) (rmk 2) [.ref (E.1 8 0), .int (x1)] w (eI q.1) q.2 := by
  refine Mt.of [some (.ref (E.1 8 0)), some (.int (x1))] (plainFor_of_name pn_X10) rfl (Nat.le_of_ble_eq_true rfl) rfl ?_
  unfold f_X10_pass
  refine gm_iload_n dX10_pass_0 rfl rfl ?_
  refine gm_iconst (v := 1) dX10_pass_1 (by decide) ?_
  refine gm_sipush (v := 10080) dX10_pass_2 (by decide) ?_
  refine gm_callSk (As := [.int (x1), .int (1), .int (10080)]) dX10_pass_5 (tk_X10_in w x1 1 10080) cy_X10_in tb_1033 rfl rfl (rm_ok (by decide) (by decide)) (Nat.le_of_ble_eq_true rfl) ?_
  refine gm_if_ne (tgt := 13) dX10_pass_8 (by decide) ?_ ?_
  · refine gm_aload_n dX10_pass_13 rfl rfl ?_
    refine gm_get dX10_pass_14 ce_8_0 rfl inX10 0 (by decide) tb_944 rfl rfl ?_
    refine gm_iconst (v := 4) dX10_pass_17 (by decide) ?_
    refine gm_iald dX10_pass_18 ce_8_1 ?_
    refine gm_iload_n dX10_pass_19 rfl rfl ?_
    refine gm_iadd dX10_pass_20 ?_
    refine gm_ldc (v := 1000000) dX10_pass_21 tb_1170 ?_
    refine gm_icmp_le (tgt := 29) dX10_pass_23 (by decide) ?_ ?_
    · refine gm_aload_n dX10_pass_29 rfl rfl ?_
      refine gm_aload_n dX10_pass_30 rfl rfl ?_
      refine gm_get dX10_pass_31 ce_8_0 rfl inX10 0 (by decide) tb_944 rfl rfl ?_
      refine gm_callVv (As := [.ref (E.1 8 1)]) dX10_pass_34 (t_X10_keeps 1 ce_8_1 w) ce_8_0 rfl cy_X10_keeps tb_1021 rfl rfl (rm_ok (by decide) (by decide)) (Nat.le_of_ble_eq_true rfl) (fun q1 => ?_)
      refine gm_aload_n dX10_pass_37 rfl rfl ?_
      refine gm_get dX10_pass_38 ce_8_0 rfl inX10 0 (by decide) tb_944 rfl rfl ?_
      refine gm_iconst (v := 4) dX10_pass_41 (by decide) ?_
      refine gm_dup2 dX10_pass_42 rfl rfl ?_
      refine gm_iald dX10_pass_43 ce_8_1 ?_
      refine gm_iload_n dX10_pass_44 rfl rfl ?_
      refine gm_iadd dX10_pass_45 ?_
      refine gm_iast dX10_pass_46 ce_8_1 (fun w2 => ?_)
      refine gm_aload_n dX10_pass_47 rfl rfl ?_
      refine gm_get dX10_pass_48 ce_8_0 rfl inX10 0 (by decide) tb_944 rfl rfl ?_
      refine gm_iconst (v := 4) dX10_pass_51 (by decide) ?_
      refine gm_iald dX10_pass_52 ce_8_1 ?_
      exact gm_iret dX10_pass_53
    · refine gm_bipush (v := (-2)) dX10_pass_26 (by decide) ?_
      exact gm_iret dX10_pass_28
  · refine gm_iconst (v := (-1)) dX10_pass_11 (by decide) ?_
    exact gm_iret dX10_pass_12

noncomputable def j_X10_port_39 (w : Wd) (y1 : Int32) (y2 : Int32) : Option (Int32 × Wd) :=
  (f_X10_keeps 1 w).bind fun q3 =>
  (f_X10_ports q3.2 y1 y2).bind fun q4 =>
  some (q4.1, q4.2)
set_option maxRecDepth 100000 in
set_option maxHeartbeats 4000000 in
theorem k_X10_port_39 {l : Launch} {E : En} (w : Wd) (y1 : Int32) (y2 : Int32) : Gm l E cX10_port 3 RX10 (some .int) (rmk (3)) eI (j_X10_port_39    w y1 y2) w 39 [some (.ref (E.1 8 0)), some (.int (y1)), some (.int (y2))] [] := by
  unfold j_X10_port_39
  refine gm_aload_n dX10_port_39 rfl rfl ?_
  refine gm_aload_n dX10_port_40 rfl rfl ?_
  refine gm_get dX10_port_41 ce_8_0 rfl inX10 0 (by decide) tb_944 rfl rfl ?_
  refine gm_callVv (As := [.ref (E.1 8 1)]) dX10_port_44 (t_X10_keeps 1 ce_8_1 w) ce_8_0 rfl cy_X10_keeps tb_1021 rfl rfl (rm_ok (by decide) (by decide)) (Nat.le_of_ble_eq_true rfl) (fun q3 => ?_)
  refine gm_aload_n dX10_port_47 rfl rfl ?_
  refine gm_iload_n dX10_port_48 rfl rfl ?_
  refine gm_iload_n dX10_port_49 rfl rfl ?_
  refine gm_callVi (As := [.int (y1), .int (y2)]) dX10_port_50 (t_X10_ports q3.2 y1 y2) ce_8_0 rfl cy_X10_ports tb_1076 rfl rfl (rm_ok (by decide) (by decide)) (Nat.le_of_ble_eq_true rfl) (fun q4 => ?_)
  exact gm_iret dX10_port_53
noncomputable def f_X10_port (w : Wd) (x1 : Int32) (x2 : Int32) : Option (Int32 × Wd) :=
  (f_X10_isSwitch w x2).bind fun q1 =>
  if q1.1 = 0 then
    some ((-1), q1.2)
  else
    (f_X10_isNumber q1.2 x1).bind fun q2 =>
    if q2.1 = 0 then
      some ((-1), q2.2)
    else
      if ib 2 640 = true then
      if (q2.2 8 1 (Int32.toNatClampNeg 2)) = 30 then
        (f_X10_portOf q2.2 x1).bind fun q5 =>
        if 0 ≤ q5.1 then
          j_X10_port_39 q5.2 x1 x2
        else
          some ((-3), q5.2)
      else
        j_X10_port_39 q2.2 x1 x2
      else none
set_option maxRecDepth 100000 in
set_option maxHeartbeats 4000000 in
theorem t_X10_port {l : Launch} {E : En} (w : Wd) (x1 : Int32) (x2 : Int32) : ∀ q, f_X10_port   w x1 x2 = some q → Mt l E yX10_port cX10_port 3 (some .int) (rmk 3) [.ref (E.1 8 0), .int (x1), .int (x2)] w (eI q.1) q.2 := by
  refine Mt.of [some (.ref (E.1 8 0)), some (.int (x1)), some (.int (x2))] (plainFor_of_name pn_X10) rfl (Nat.le_of_ble_eq_true rfl) rfl ?_
  unfold f_X10_port
  refine gm_aload_n dX10_port_0 rfl rfl ?_
  refine gm_iload_n dX10_port_1 rfl rfl ?_
  refine gm_callVi (As := [.int (x2)]) dX10_port_2 (t_X10_isSwitch w x2) ce_8_0 rfl cy_X10_isSwitch tb_1029 rfl rfl (rm_ok (by decide) (by decide)) (Nat.le_of_ble_eq_true rfl) (fun q1 => ?_)
  refine gm_if_eq (tgt := 15) dX10_port_5 (by decide) ?_ ?_
  · refine gm_iconst (v := (-1)) dX10_port_15 (by decide) ?_
    exact gm_iret dX10_port_16
  · refine gm_iload_n dX10_port_8 rfl rfl ?_
    refine gm_callSi (As := [.int (x1)]) dX10_port_9 (t_X10_isNumber q1.2 x1) cy_X10_isNumber tb_1069 rfl rfl (rm_ok (by decide) (by decide)) (Nat.le_of_ble_eq_true rfl) (fun q2 => ?_)
    refine gm_if_ne (tgt := 17) dX10_port_12 (by decide) ?_ ?_
    · refine gm_aload_n dX10_port_17 rfl rfl ?_
      refine gm_get dX10_port_18 ce_8_0 rfl inX10 0 (by decide) tb_944 rfl rfl ?_
      refine gm_iconst (v := 2) dX10_port_21 (by decide) ?_
      refine gm_iald dX10_port_22 ce_8_1 ?_
      refine gm_bipush (v := 30) dX10_port_23 (by decide) ?_
      refine gm_icmp_ne (tgt := 39) dX10_port_25 (by decide) ?_ ?_
      · exact gm_weak (lsub_s (lsub_s (lsub_s lsub_0))) (k_X10_port_39 q2.2 x1 x2)
      · refine gm_aload_n dX10_port_28 rfl rfl ?_
        refine gm_iload_n dX10_port_29 rfl rfl ?_
        refine gm_callVi (As := [.int (x1)]) dX10_port_30 (t_X10_portOf q2.2 x1) ce_8_0 rfl cy_X10_portOf tb_1072 rfl rfl (rm_ok (by decide) (by decide)) (Nat.le_of_ble_eq_true rfl) (fun q5 => ?_)
        refine gm_if_ge (tgt := 39) dX10_port_33 (by decide) ?_ ?_
        · exact gm_weak (lsub_s (lsub_s (lsub_s lsub_0))) (k_X10_port_39 q5.2 x1 x2)
        · refine gm_bipush (v := (-3)) dX10_port_36 (by decide) ?_
          exact gm_iret dX10_port_38
    · refine gm_iconst (v := (-1)) dX10_port_15 (by decide) ?_
      exact gm_iret dX10_port_16

noncomputable def f_X10_sign (w : Wd) : Option (Int32 × Wd) :=
  if (w 8 0 19) ≤ (w 8 0 20) then
    some ((-1), w)
  else
    if ib (w 8 0 20) 80 = true then
    some (w 8 14 (Int32.toNatClampNeg (w 8 0 20)), w)
    else none
set_option maxRecDepth 100000 in
set_option maxHeartbeats 4000000 in
theorem t_X10_sign {l : Launch} {E : En} (w : Wd) : ∀ q, f_X10_sign   w  = some q → Mt l E yX10_sign cX10_sign 1 (some .int) (rmk 1) [.ref (E.1 8 0)] w (eI q.1) q.2 := by
  refine Mt.of [some (.ref (E.1 8 0))] (plainFor_of_name pn_X10) rfl (Nat.le_of_ble_eq_true rfl) rfl ?_
  unfold f_X10_sign
  refine gm_aload_n dX10_sign_0 rfl rfl ?_
  refine gm_get dX10_sign_1 ce_8_0 rfl inX10 20 (by decide) tb_964 rfl rfl ?_
  refine gm_aload_n dX10_sign_4 rfl rfl ?_
  refine gm_get dX10_sign_5 ce_8_0 rfl inX10 19 (by decide) tb_963 rfl rfl ?_
  refine gm_icmp_ge (tgt := 23) dX10_sign_8 (by decide) ?_ ?_
  · refine gm_iconst (v := (-1)) dX10_sign_23 (by decide) ?_
    exact gm_iret dX10_sign_24
  · refine gm_aload_n dX10_sign_11 rfl rfl ?_
    refine gm_get dX10_sign_12 ce_8_0 rfl inX10 18 (by decide) tb_962 rfl rfl ?_
    refine gm_aload_n dX10_sign_15 rfl rfl ?_
    refine gm_get dX10_sign_16 ce_8_0 rfl inX10 20 (by decide) tb_964 rfl rfl ?_
    refine gm_iald dX10_sign_19 ce_8_14 ?_
    refine gm_goto (tgt := 24) dX10_sign_20 (by decide) ?_
    exact gm_iret dX10_sign_24

noncomputable def j_X10_reads_72 (w : Wd) (y1 : Int32) (y2 : Int32) (y5 : Int32) (y6 : Int32) : Option (Int32 × Wd) :=
  if ib ((5 * (w 8 0 21)) + y1) 400 = true then
  letw (wup w 8 16 (Int32.toNatClampNeg ((5 * (w 8 0 21)) + y1)) y6) fun w1 =>
  if y5 < y2 then
    some (0, w1)
  else
    some (1, w1)
  else none
set_option maxRecDepth 100000 in
set_option maxHeartbeats 4000000 in
theorem k_X10_reads_72 {l : Launch} {E : En} (w : Wd) (y1 : Int32) (y2 : Int32) (y5 : Int32) (y6 : Int32) : Gm l E cX10_reads 7 RX10 (some .boolean) (rmk (2)) eI (j_X10_reads_72    w y1 y2 y5 y6) w 72 [some (.ref (E.1 8 0)), some (.int (y1)), some (.int (y2)), none, none, some (.int (y5)), some (.int (y6))] [] := by
  unfold j_X10_reads_72
  refine gm_aload_n dX10_reads_72 rfl rfl ?_
  refine gm_get dX10_reads_73 ce_8_0 rfl inX10 23 (by decide) tb_967 rfl rfl ?_
  refine gm_iconst (v := 5) dX10_reads_76 (by decide) ?_
  refine gm_aload_n dX10_reads_77 rfl rfl ?_
  refine gm_get dX10_reads_78 ce_8_0 rfl inX10 21 (by decide) tb_965 rfl rfl ?_
  refine gm_imul dX10_reads_81 ?_
  refine gm_iload_n dX10_reads_82 rfl rfl ?_
  refine gm_iadd dX10_reads_83 ?_
  refine gm_iload dX10_reads_84 rfl ?_
  refine gm_iast dX10_reads_86 ce_8_16 (fun w1 => ?_)
  refine gm_iload dX10_reads_87 rfl ?_
  refine gm_iload_n dX10_reads_89 rfl rfl ?_
  refine gm_icmp_lt (tgt := 97) dX10_reads_90 (by decide) ?_ ?_
  · refine gm_iconst (v := 0) dX10_reads_97 (by decide) ?_
    exact gm_zret dX10_reads_98 rfl
  · refine gm_iconst (v := 1) dX10_reads_93 (by decide) ?_
    refine gm_goto (tgt := 98) dX10_reads_94 (by decide) ?_
    exact gm_zret dX10_reads_98 rfl
noncomputable def j_X10_reads_33 (rc6 : Wd → Int32 → Int32 → Int32 → Int32 → Int32 → Int32 → Option (Int32 × Wd)) (w : Wd) (y1 : Int32) (y2 : Int32) (y3 : Int32) (y4 : Int32) (y5 : Int32) (y6 : Int32) (z0 : Int32) (z1 : Int32) : Option (Int32 × Wd) :=
  if (p_X10_in w z0 z1 57) = 0 then
    j_X10_reads_72 w y1 y2 y5 y6
  else
    (f_X10_sign w).bind fun q3 =>
    leti (((10 * y6) + q3.1) - 48) fun u4 =>
    letw (wup q3.2 8 0 20 (((q3.2) 8 0 20) + 1)) fun w5 =>
    rc6 w5 y1 y2 y3 y4 (y5 + 1) u4
set_option maxRecDepth 100000 in
set_option maxHeartbeats 4000000 in
theorem k_X10_reads_33 {l : Launch} {E : En} (rc6 : Wd → Int32 → Int32 → Int32 → Int32 → Int32 → Int32 → Option (Int32 × Wd)) (hrc6 : ∀ (w : Wd) (y1 : Int32) (y2 : Int32) (y3 : Int32) (y4 : Int32) (y5 : Int32) (y6 : Int32), Gm l E cX10_reads 7 RX10 (some .boolean) (rmk (2)) eI (rc6 w y1 y2 y3 y4 y5 y6) w 6 [some (.ref (E.1 8 0)), some (.int (y1)), some (.int (y2)), some (.int (y3)), some (.int (y4)), some (.int (y5)), some (.int (y6))] []) (w : Wd) (y1 : Int32) (y2 : Int32) (y3 : Int32) (y4 : Int32) (y5 : Int32) (y6 : Int32) (z0 : Int32) (z1 : Int32) : Gm l E cX10_reads 7 RX10 (some .boolean) (rmk (2)) eI (j_X10_reads_33   rc6 w y1 y2 y3 y4 y5 y6 z0 z1) w 33 [some (.ref (E.1 8 0)), some (.int (y1)), some (.int (y2)), some (.int (y3)), some (.int (y4)), some (.int (y5)), some (.int (y6))] [.int (z1), .int (z0)] := by
  unfold j_X10_reads_33
  refine gm_bipush (v := 57) dX10_reads_33 (by decide) ?_
  refine gm_callSk (As := [.int (z0), .int (z1), .int (57)]) dX10_reads_35 (tk_X10_in w z0 z1 57) cy_X10_in tb_1033 rfl rfl (rm_ok (by decide) (by decide)) (Nat.le_of_ble_eq_true rfl) ?_
  refine gm_if_eq (tgt := 72) dX10_reads_38 (by decide) ?_ ?_
  · exact gm_weak (lsub_s (lsub_s (lsub_s (lsub_n (lsub_n (lsub_s (lsub_s lsub_0))))))) (k_X10_reads_72 w y1 y2 y5 y6)
  · refine gm_bipush (v := 10) dX10_reads_41 (by decide) ?_
    refine gm_iload dX10_reads_43 rfl ?_
    refine gm_imul dX10_reads_45 ?_
    refine gm_aload_n dX10_reads_46 rfl rfl ?_
    refine gm_callVi (As := []) dX10_reads_47 (t_X10_sign w) ce_8_0 rfl cy_X10_sign tb_1239 rfl rfl (rm_ok (by decide) (by decide)) (Nat.le_of_ble_eq_true rfl) (fun q3 => ?_)
    refine gm_iadd dX10_reads_50 ?_
    refine gm_bipush (v := 48) dX10_reads_51 (by decide) ?_
    refine gm_isub dX10_reads_53 ?_
    refine gm_leti_st (fun u4 => ?_)
    refine gm_istore (lv' := [some (.ref (E.1 8 0)), some (.int (y1)), some (.int (y2)), some (.int (y3)), some (.int (y4)), some (.int (y5)), some (.int (u4))]) dX10_reads_54 (by decide) rfl rfl ?_
    refine gm_aload_n dX10_reads_56 rfl rfl ?_
    refine gm_dup dX10_reads_57 rfl ?_
    refine gm_get dX10_reads_58 ce_8_0 rfl inX10 20 (by decide) tb_964 rfl rfl ?_
    refine gm_iconst (v := 1) dX10_reads_61 (by decide) ?_
    refine gm_iadd dX10_reads_62 ?_
    refine gm_put dX10_reads_63 ce_8_0 rfl inX10 tyX10 tyX10_ok nmX10 20 (by decide) tb_964 rfl rfl (by decide +kernel) (fun _ => rfl) (fun _ => rfl) (fun w5 => ?_)
    refine gm_iinc (v := 1) (lv' := [some (.ref (E.1 8 0)), some (.int (y1)), some (.int (y2)), some (.int (y3)), some (.int (y4)), some (.int (y5 + 1)), some (.int (u4))]) dX10_reads_66 rfl (by decide) (by decide) rfl rfl ?_
    refine gm_goto (tgt := 6) dX10_reads_69 (by decide) ?_
    exact gm_weak (lsub_s (lsub_s (lsub_s (lsub_s (lsub_s (lsub_s (lsub_s lsub_0))))))) (hrc6 w5 y1 y2 y3 y4 (y5 + 1) u4)
noncomputable def b_X10_reads_6 (rc6 : Wd → Int32 → Int32 → Int32 → Int32 → Int32 → Int32 → Option (Int32 × Wd)) (w : Wd) (y1 : Int32) (y2 : Int32) (y3 : Int32) (y4 : Int32) (y5 : Int32) (y6 : Int32) : Option (Int32 × Wd) :=
  if y3 ≤ y5 then
    j_X10_reads_72 w y1 y2 y5 y6
  else
    (f_X10_sign w).bind fun q2 =>
    if y5 = 0 then
      if y4 = 0 then
        j_X10_reads_33 rc6 q2.2 y1 y2 y3 y4 y5 y6 q2.1 49
      else
        j_X10_reads_33 rc6 q2.2 y1 y2 y3 y4 y5 y6 q2.1 48
    else
      j_X10_reads_33 rc6 q2.2 y1 y2 y3 y4 y5 y6 q2.1 48
set_option maxRecDepth 100000 in
set_option maxHeartbeats 4000000 in
theorem kb_X10_reads_6 {l : Launch} {E : En} (rc6 : Wd → Int32 → Int32 → Int32 → Int32 → Int32 → Int32 → Option (Int32 × Wd)) (hrc6 : ∀ (w : Wd) (y1 : Int32) (y2 : Int32) (y3 : Int32) (y4 : Int32) (y5 : Int32) (y6 : Int32), Gm l E cX10_reads 7 RX10 (some .boolean) (rmk (2)) eI (rc6 w y1 y2 y3 y4 y5 y6) w 6 [some (.ref (E.1 8 0)), some (.int (y1)), some (.int (y2)), some (.int (y3)), some (.int (y4)), some (.int (y5)), some (.int (y6))] []) (w : Wd) (y1 : Int32) (y2 : Int32) (y3 : Int32) (y4 : Int32) (y5 : Int32) (y6 : Int32) : Gm l E cX10_reads 7 RX10 (some .boolean) (rmk (2)) eI (b_X10_reads_6   rc6 w y1 y2 y3 y4 y5 y6) w 6 [some (.ref (E.1 8 0)), some (.int (y1)), some (.int (y2)), some (.int (y3)), some (.int (y4)), some (.int (y5)), some (.int (y6))] [] := by
  unfold b_X10_reads_6
  refine gm_iload dX10_reads_6 rfl ?_
  refine gm_iload_n dX10_reads_8 rfl rfl ?_
  refine gm_icmp_ge (tgt := 72) dX10_reads_9 (by decide) ?_ ?_
  · exact gm_weak (lsub_s (lsub_s (lsub_s (lsub_n (lsub_n (lsub_s (lsub_s lsub_0))))))) (k_X10_reads_72 w y1 y2 y5 y6)
  · refine gm_aload_n dX10_reads_12 rfl rfl ?_
    refine gm_callVi (As := []) dX10_reads_13 (t_X10_sign w) ce_8_0 rfl cy_X10_sign tb_1239 rfl rfl (rm_ok (by decide) (by decide)) (Nat.le_of_ble_eq_true rfl) (fun q2 => ?_)
    refine gm_iload dX10_reads_16 rfl ?_
    refine gm_if_ne (tgt := 31) dX10_reads_18 (by decide) ?_ ?_
    · refine gm_bipush (v := 48) dX10_reads_31 (by decide) ?_
      exact gm_weak (lsub_s (lsub_s (lsub_s (lsub_s (lsub_s (lsub_s (lsub_s lsub_0))))))) (k_X10_reads_33 rc6 hrc6 q2.2 y1 y2 y3 y4 y5 y6 q2.1 48)
    · refine gm_iload dX10_reads_21 rfl ?_
      refine gm_if_ne (tgt := 31) dX10_reads_23 (by decide) ?_ ?_
      · refine gm_bipush (v := 48) dX10_reads_31 (by decide) ?_
        exact gm_weak (lsub_s (lsub_s (lsub_s (lsub_s (lsub_s (lsub_s (lsub_s lsub_0))))))) (k_X10_reads_33 rc6 hrc6 q2.2 y1 y2 y3 y4 y5 y6 q2.1 48)
      · refine gm_bipush (v := 49) dX10_reads_26 (by decide) ?_
        refine gm_goto (tgt := 33) dX10_reads_28 (by decide) ?_
        exact gm_weak (lsub_s (lsub_s (lsub_s (lsub_s (lsub_s (lsub_s (lsub_s lsub_0))))))) (k_X10_reads_33 rc6 hrc6 q2.2 y1 y2 y3 y4 y5 y6 q2.1 49)
noncomputable def h_X10_reads_6 : Nat → (Wd → Int32 → Int32 → Int32 → Int32 → Int32 → Int32 → Option (Int32 × Wd))
  | 0 => fun _ _ _ _ _ _ _ => none
  | fu + 1 => b_X10_reads_6    (h_X10_reads_6    fu)
set_option maxRecDepth 100000 in
set_option maxHeartbeats 4000000 in
theorem k_X10_reads_6 {l : Launch} {E : En} : ∀ (fu : Nat) (w : Wd) (y1 : Int32) (y2 : Int32) (y3 : Int32) (y4 : Int32) (y5 : Int32) (y6 : Int32), Gm l E cX10_reads 7 RX10 (some .boolean) (rmk (2)) eI (h_X10_reads_6    fu w y1 y2 y3 y4 y5 y6) w 6 [some (.ref (E.1 8 0)), some (.int (y1)), some (.int (y2)), some (.int (y3)), some (.int (y4)), some (.int (y5)), some (.int (y6))] []
  | 0, _, _, _, _, _, _, _ => gm_none
  | fu + 1, w, y1, y2, y3, y4, y5, y6 => kb_X10_reads_6     (h_X10_reads_6    fu)  (fun w y1 y2 y3 y4 y5 y6 => k_X10_reads_6      fu w y1 y2 y3 y4 y5 y6) w y1 y2 y3 y4 y5 y6
noncomputable def f_X10_reads (w : Wd) (x1 : Int32) (x2 : Int32) (x3 : Int32) (x4 : Int32) : Option (Int32 × Wd) :=
  h_X10_reads_6 FU w x1 x2 x3 x4 0 0
set_option maxRecDepth 100000 in
set_option maxHeartbeats 4000000 in
theorem t_X10_reads {l : Launch} {E : En} (w : Wd) (x1 : Int32) (x2 : Int32) (x3 : Int32) (x4 : Int32) : ∀ q, f_X10_reads   w x1 x2 x3 x4 = some q → Mt l E yX10_reads cX10_reads 7 (some .boolean) (rmk 2) [.ref (E.1 8 0), .int (x1), .int (x2), .int (x3), .int (x4)] w (eI q.1) q.2 := by
  refine Mt.of [some (.ref (E.1 8 0)), some (.int (x1)), some (.int (x2)), some (.int (x3)), some (.int (x4)), none, none] (plainFor_of_name pn_X10) rfl (Nat.le_of_ble_eq_true rfl) rfl ?_
  unfold f_X10_reads
  refine gm_iconst (v := 0) dX10_reads_0 (by decide) ?_
  refine gm_istore (lv' := [some (.ref (E.1 8 0)), some (.int (x1)), some (.int (x2)), some (.int (x3)), some (.int (x4)), some (.int (0)), none]) dX10_reads_1 (by decide) rfl rfl ?_
  refine gm_iconst (v := 0) dX10_reads_3 (by decide) ?_
  refine gm_istore (lv' := [some (.ref (E.1 8 0)), some (.int (x1)), some (.int (x2)), some (.int (x3)), some (.int (x4)), some (.int (0)), some (.int (0))]) dX10_reads_4 (by decide) rfl rfl ?_
  exact gm_weak (lsub_s (lsub_s (lsub_s (lsub_s (lsub_s (lsub_s (lsub_s lsub_0))))))) (k_X10_reads_6 FU w x1 x2 x3 x4 0 0)

noncomputable def j_X10_takes_13 (w : Wd) (z0 : Int32) : Option (Int32 × Wd) :=
  if z0 = 0 then
    letw (wup w 8 0 20 ((w 8 0 20) + 0)) fun w2 =>
    if zb z0 = true then
    some (z0, w2)
    else none
  else
    letw (wup w 8 0 20 ((w 8 0 20) + 1)) fun w3 =>
    if zb z0 = true then
    some (z0, w3)
    else none
set_option maxRecDepth 100000 in
set_option maxHeartbeats 4000000 in
theorem k_X10_takes_13 {l : Launch} {E : En} (w : Wd) (z0 : Int32) : Gm l E cX10_takes 3 RX10 (some .boolean) (rmk (2)) eI (j_X10_takes_13    w z0) w 13 [some (.ref (E.1 8 0)), none, none] [.int (z0)] := by
  unfold j_X10_takes_13
  refine gm_istore_n (lv' := [some (.ref (E.1 8 0)), none, some (.int (z0))]) dX10_takes_13 rfl (by decide) rfl rfl ?_
  refine gm_aload_n dX10_takes_14 rfl rfl ?_
  refine gm_dup dX10_takes_15 rfl ?_
  refine gm_get dX10_takes_16 ce_8_0 rfl inX10 20 (by decide) tb_964 rfl rfl ?_
  refine gm_iload_n dX10_takes_19 rfl rfl ?_
  refine gm_if_eq (tgt := 27) dX10_takes_20 (by decide) ?_ ?_
  · refine gm_iconst (v := 0) dX10_takes_27 (by decide) ?_
    refine gm_iadd dX10_takes_28 ?_
    refine gm_put dX10_takes_29 ce_8_0 rfl inX10 tyX10 tyX10_ok nmX10 20 (by decide) tb_964 rfl rfl (by decide +kernel) (fun _ => rfl) (fun _ => rfl) (fun w2 => ?_)
    refine gm_iload_n dX10_takes_32 rfl rfl ?_
    exact gm_zret_g dX10_takes_33
  · refine gm_iconst (v := 1) dX10_takes_23 (by decide) ?_
    refine gm_goto (tgt := 28) dX10_takes_24 (by decide) ?_
    refine gm_iadd dX10_takes_28 ?_
    refine gm_put dX10_takes_29 ce_8_0 rfl inX10 tyX10 tyX10_ok nmX10 20 (by decide) tb_964 rfl rfl (by decide +kernel) (fun _ => rfl) (fun _ => rfl) (fun w3 => ?_)
    refine gm_iload_n dX10_takes_32 rfl rfl ?_
    exact gm_zret_g dX10_takes_33
noncomputable def f_X10_takes (w : Wd) (x1 : Int32) : Option (Int32 × Wd) :=
  (f_X10_sign w).bind fun q1 =>
  if q1.1 = x1 then
    j_X10_takes_13 q1.2 1
  else
    j_X10_takes_13 q1.2 0
set_option maxRecDepth 100000 in
set_option maxHeartbeats 4000000 in
theorem t_X10_takes {l : Launch} {E : En} (w : Wd) (x1 : Int32) : ∀ q, f_X10_takes   w x1 = some q → Mt l E yX10_takes cX10_takes 3 (some .boolean) (rmk 2) [.ref (E.1 8 0), .int (x1)] w (eI q.1) q.2 := by
  refine Mt.of [some (.ref (E.1 8 0)), some (.int (x1)), none] (plainFor_of_name pn_X10) rfl (Nat.le_of_ble_eq_true rfl) rfl ?_
  unfold f_X10_takes
  refine gm_aload_n dX10_takes_0 rfl rfl ?_
  refine gm_callVi (As := []) dX10_takes_1 (t_X10_sign w) ce_8_0 rfl cy_X10_sign tb_1239 rfl rfl (rm_ok (by decide) (by decide)) (Nat.le_of_ble_eq_true rfl) (fun q1 => ?_)
  refine gm_iload_n dX10_takes_4 rfl rfl ?_
  refine gm_icmp_ne (tgt := 12) dX10_takes_5 (by decide) ?_ ?_
  · refine gm_iconst (v := 0) dX10_takes_12 (by decide) ?_
    exact gm_weak (lsub_s (lsub_n (lsub_n lsub_0))) (k_X10_takes_13 q1.2 0)
  · refine gm_iconst (v := 1) dX10_takes_8 (by decide) ?_
    refine gm_goto (tgt := 13) dX10_takes_9 (by decide) ?_
    exact gm_weak (lsub_s (lsub_n (lsub_n lsub_0))) (k_X10_takes_13 q1.2 1)

noncomputable def j_X10_readsCommand_149 (w : Wd) (z0 : Int32) : Option (Int32 × Wd) :=
  if z0 = 0 then
    some (0, w)
  else
    (f_X10_reads w 2 0 9 0).bind fun q5 =>
    if q5.1 = 0 then
      some (0, q5.2)
    else
      (f_X10_takes q5.2 64).bind fun q6 =>
      if q6.1 = 0 then
        some (0, q6.2)
      else
        (f_X10_reads q6.2 3 1 4 1).bind fun q7 =>
        if q7.1 = 0 then
          some (0, q7.2)
        else
          (f_X10_takes q7.2 120).bind fun q8 =>
          if q8.1 = 0 then
            some (0, q8.2)
          else
            (f_X10_reads q8.2 4 1 4 1).bind fun q9 =>
            if q9.1 = 0 then
              some (0, q9.2)
            else
              some (1, q9.2)
set_option maxRecDepth 100000 in
set_option maxHeartbeats 4000000 in
theorem k_X10_readsCommand_149 {l : Launch} {E : En} (w : Wd) (z0 : Int32) : Gm l E cX10_readsCommand 3 RX10 (some .boolean) (rmk (3)) eI (j_X10_readsCommand_149    w z0) w 149 [some (.ref (E.1 8 0)), none, none] [.int (z0)] := by
  unfold j_X10_readsCommand_149
  refine gm_istore_n (lv' := [some (.ref (E.1 8 0)), none, some (.int (z0))]) dX10_readsCommand_149 rfl (by decide) rfl rfl ?_
  refine gm_iload_n dX10_readsCommand_150 rfl rfl ?_
  refine gm_if_eq (tgt := 210) dX10_readsCommand_151 (by decide) ?_ ?_
  · refine gm_iconst (v := 0) dX10_readsCommand_210 (by decide) ?_
    exact gm_zret dX10_readsCommand_211 rfl
  · refine gm_aload_n dX10_readsCommand_154 rfl rfl ?_
    refine gm_iconst (v := 2) dX10_readsCommand_155 (by decide) ?_
    refine gm_iconst (v := 0) dX10_readsCommand_156 (by decide) ?_
    refine gm_bipush (v := 9) dX10_readsCommand_157 (by decide) ?_
    refine gm_iconst (v := 0) dX10_readsCommand_159 (by decide) ?_
    refine gm_callVi (As := [.int (2), .int (0), .int (9), .int (0)]) dX10_readsCommand_160 (t_X10_reads w 2 0 9 0) ce_8_0 rfl cy_X10_reads tb_1243 rfl rfl (rm_ok (by decide) (by decide)) (Nat.le_of_ble_eq_true rfl) (fun q5 => ?_)
    refine gm_if_eq (tgt := 210) dX10_readsCommand_163 (by decide) ?_ ?_
    · refine gm_iconst (v := 0) dX10_readsCommand_210 (by decide) ?_
      exact gm_zret dX10_readsCommand_211 rfl
    · refine gm_aload_n dX10_readsCommand_166 rfl rfl ?_
      refine gm_bipush (v := 64) dX10_readsCommand_167 (by decide) ?_
      refine gm_callVi (As := [.int (64)]) dX10_readsCommand_169 (t_X10_takes q5.2 64) ce_8_0 rfl cy_X10_takes tb_1247 rfl rfl (rm_ok (by decide) (by decide)) (Nat.le_of_ble_eq_true rfl) (fun q6 => ?_)
      refine gm_if_eq (tgt := 210) dX10_readsCommand_172 (by decide) ?_ ?_
      · refine gm_iconst (v := 0) dX10_readsCommand_210 (by decide) ?_
        exact gm_zret dX10_readsCommand_211 rfl
      · refine gm_aload_n dX10_readsCommand_175 rfl rfl ?_
        refine gm_iconst (v := 3) dX10_readsCommand_176 (by decide) ?_
        refine gm_iconst (v := 1) dX10_readsCommand_177 (by decide) ?_
        refine gm_iconst (v := 4) dX10_readsCommand_178 (by decide) ?_
        refine gm_iconst (v := 1) dX10_readsCommand_179 (by decide) ?_
        refine gm_callVi (As := [.int (3), .int (1), .int (4), .int (1)]) dX10_readsCommand_180 (t_X10_reads q6.2 3 1 4 1) ce_8_0 rfl cy_X10_reads tb_1243 rfl rfl (rm_ok (by decide) (by decide)) (Nat.le_of_ble_eq_true rfl) (fun q7 => ?_)
        refine gm_if_eq (tgt := 210) dX10_readsCommand_183 (by decide) ?_ ?_
        · refine gm_iconst (v := 0) dX10_readsCommand_210 (by decide) ?_
          exact gm_zret dX10_readsCommand_211 rfl
        · refine gm_aload_n dX10_readsCommand_186 rfl rfl ?_
          refine gm_bipush (v := 120) dX10_readsCommand_187 (by decide) ?_
          refine gm_callVi (As := [.int (120)]) dX10_readsCommand_189 (t_X10_takes q7.2 120) ce_8_0 rfl cy_X10_takes tb_1247 rfl rfl (rm_ok (by decide) (by decide)) (Nat.le_of_ble_eq_true rfl) (fun q8 => ?_)
          refine gm_if_eq (tgt := 210) dX10_readsCommand_192 (by decide) ?_ ?_
          · refine gm_iconst (v := 0) dX10_readsCommand_210 (by decide) ?_
            exact gm_zret dX10_readsCommand_211 rfl
          · refine gm_aload_n dX10_readsCommand_195 rfl rfl ?_
            refine gm_iconst (v := 4) dX10_readsCommand_196 (by decide) ?_
            refine gm_iconst (v := 1) dX10_readsCommand_197 (by decide) ?_
            refine gm_iconst (v := 4) dX10_readsCommand_198 (by decide) ?_
            refine gm_iconst (v := 1) dX10_readsCommand_199 (by decide) ?_
            refine gm_callVi (As := [.int (4), .int (1), .int (4), .int (1)]) dX10_readsCommand_200 (t_X10_reads q8.2 4 1 4 1) ce_8_0 rfl cy_X10_reads tb_1243 rfl rfl (rm_ok (by decide) (by decide)) (Nat.le_of_ble_eq_true rfl) (fun q9 => ?_)
            refine gm_if_eq (tgt := 210) dX10_readsCommand_203 (by decide) ?_ ?_
            · refine gm_iconst (v := 0) dX10_readsCommand_210 (by decide) ?_
              exact gm_zret dX10_readsCommand_211 rfl
            · refine gm_iconst (v := 1) dX10_readsCommand_206 (by decide) ?_
              refine gm_goto (tgt := 211) dX10_readsCommand_207 (by decide) ?_
              exact gm_zret dX10_readsCommand_211 rfl
noncomputable def j_X10_readsCommand_25 (w : Wd) (y1 : Int32) : Option (Int32 × Wd) :=
  if ib (w 8 0 21) 80 = true then
  letw (wup w 8 15 (Int32.toNatClampNeg (w 8 0 21)) y1) fun w2 =>
  letw (wup w2 8 0 20 ((w2 8 0 20) + 1)) fun w3 =>
  if y1 = 108 then
    (f_X10_reads w3 0 1 1 1).bind fun q16 =>
    if zb q16.1 = true then
    some (q16.1, q16.2)
    else none
  else
    if y1 = 112 then
      (f_X10_reads w3 0 1 9 0).bind fun q13 =>
      if q13.1 = 0 then
        some (0, q13.2)
      else
        (f_X10_takes q13.2 62).bind fun q14 =>
        if q14.1 = 0 then
          some (0, q14.2)
        else
          (f_X10_reads q14.2 1 1 1 1).bind fun q15 =>
          if q15.1 = 0 then
            some (0, q15.2)
          else
            some (1, q15.2)
    else
      (f_X10_reads w3 0 1 1 1).bind fun q4 =>
      if q4.1 = 0 then
        j_X10_readsCommand_149 q4.2 0
      else
        (f_X10_takes q4.2 62).bind fun q10 =>
        if q10.1 = 0 then
          j_X10_readsCommand_149 q10.2 0
        else
          (f_X10_reads q10.2 1 1 1 1).bind fun q11 =>
          if q11.1 = 0 then
            j_X10_readsCommand_149 q11.2 0
          else
            (f_X10_takes q11.2 58).bind fun q12 =>
            if q12.1 = 0 then
              j_X10_readsCommand_149 q12.2 0
            else
              j_X10_readsCommand_149 q12.2 1
  else none
set_option maxRecDepth 100000 in
set_option maxHeartbeats 4000000 in
theorem k_X10_readsCommand_25 {l : Launch} {E : En} (w : Wd) (y1 : Int32) : Gm l E cX10_readsCommand 3 RX10 (some .boolean) (rmk (3)) eI (j_X10_readsCommand_25    w y1) w 25 [some (.ref (E.1 8 0)), some (.int (y1)), none] [] := by
  unfold j_X10_readsCommand_25
  refine gm_aload_n dX10_readsCommand_25 rfl rfl ?_
  refine gm_get dX10_readsCommand_26 ce_8_0 rfl inX10 22 (by decide) tb_966 rfl rfl ?_
  refine gm_aload_n dX10_readsCommand_29 rfl rfl ?_
  refine gm_get dX10_readsCommand_30 ce_8_0 rfl inX10 21 (by decide) tb_965 rfl rfl ?_
  refine gm_iload_n dX10_readsCommand_33 rfl rfl ?_
  refine gm_iast dX10_readsCommand_34 ce_8_15 (fun w2 => ?_)
  refine gm_aload_n dX10_readsCommand_35 rfl rfl ?_
  refine gm_dup dX10_readsCommand_36 rfl ?_
  refine gm_get dX10_readsCommand_37 ce_8_0 rfl inX10 20 (by decide) tb_964 rfl rfl ?_
  refine gm_iconst (v := 1) dX10_readsCommand_40 (by decide) ?_
  refine gm_iadd dX10_readsCommand_41 ?_
  refine gm_put dX10_readsCommand_42 ce_8_0 rfl inX10 tyX10 tyX10_ok nmX10 20 (by decide) tb_964 rfl rfl (by decide +kernel) (fun _ => rfl) (fun _ => rfl) (fun w3 => ?_)
  refine gm_iload_n dX10_readsCommand_45 rfl rfl ?_
  refine gm_bipush (v := 108) dX10_readsCommand_46 (by decide) ?_
  refine gm_icmp_ne (tgt := 60) dX10_readsCommand_48 (by decide) ?_ ?_
  · refine gm_iload_n dX10_readsCommand_60 rfl rfl ?_
    refine gm_bipush (v := 112) dX10_readsCommand_61 (by decide) ?_
    refine gm_icmp_ne (tgt := 104) dX10_readsCommand_63 (by decide) ?_ ?_
    · refine gm_aload_n dX10_readsCommand_104 rfl rfl ?_
      refine gm_iconst (v := 0) dX10_readsCommand_105 (by decide) ?_
      refine gm_iconst (v := 1) dX10_readsCommand_106 (by decide) ?_
      refine gm_iconst (v := 1) dX10_readsCommand_107 (by decide) ?_
      refine gm_iconst (v := 1) dX10_readsCommand_108 (by decide) ?_
      refine gm_callVi (As := [.int (0), .int (1), .int (1), .int (1)]) dX10_readsCommand_109 (t_X10_reads w3 0 1 1 1) ce_8_0 rfl cy_X10_reads tb_1243 rfl rfl (rm_ok (by decide) (by decide)) (Nat.le_of_ble_eq_true rfl) (fun q4 => ?_)
      refine gm_if_eq (tgt := 148) dX10_readsCommand_112 (by decide) ?_ ?_
      · refine gm_iconst (v := 0) dX10_readsCommand_148 (by decide) ?_
        exact gm_weak (lsub_s (lsub_n (lsub_n lsub_0))) (k_X10_readsCommand_149 q4.2 0)
      · refine gm_aload_n dX10_readsCommand_115 rfl rfl ?_
        refine gm_bipush (v := 62) dX10_readsCommand_116 (by decide) ?_
        refine gm_callVi (As := [.int (62)]) dX10_readsCommand_118 (t_X10_takes q4.2 62) ce_8_0 rfl cy_X10_takes tb_1247 rfl rfl (rm_ok (by decide) (by decide)) (Nat.le_of_ble_eq_true rfl) (fun q10 => ?_)
        refine gm_if_eq (tgt := 148) dX10_readsCommand_121 (by decide) ?_ ?_
        · refine gm_iconst (v := 0) dX10_readsCommand_148 (by decide) ?_
          exact gm_weak (lsub_s (lsub_n (lsub_n lsub_0))) (k_X10_readsCommand_149 q10.2 0)
        · refine gm_aload_n dX10_readsCommand_124 rfl rfl ?_
          refine gm_iconst (v := 1) dX10_readsCommand_125 (by decide) ?_
          refine gm_iconst (v := 1) dX10_readsCommand_126 (by decide) ?_
          refine gm_iconst (v := 1) dX10_readsCommand_127 (by decide) ?_
          refine gm_iconst (v := 1) dX10_readsCommand_128 (by decide) ?_
          refine gm_callVi (As := [.int (1), .int (1), .int (1), .int (1)]) dX10_readsCommand_129 (t_X10_reads q10.2 1 1 1 1) ce_8_0 rfl cy_X10_reads tb_1243 rfl rfl (rm_ok (by decide) (by decide)) (Nat.le_of_ble_eq_true rfl) (fun q11 => ?_)
          refine gm_if_eq (tgt := 148) dX10_readsCommand_132 (by decide) ?_ ?_
          · refine gm_iconst (v := 0) dX10_readsCommand_148 (by decide) ?_
            exact gm_weak (lsub_s (lsub_n (lsub_n lsub_0))) (k_X10_readsCommand_149 q11.2 0)
          · refine gm_aload_n dX10_readsCommand_135 rfl rfl ?_
            refine gm_bipush (v := 58) dX10_readsCommand_136 (by decide) ?_
            refine gm_callVi (As := [.int (58)]) dX10_readsCommand_138 (t_X10_takes q11.2 58) ce_8_0 rfl cy_X10_takes tb_1247 rfl rfl (rm_ok (by decide) (by decide)) (Nat.le_of_ble_eq_true rfl) (fun q12 => ?_)
            refine gm_if_eq (tgt := 148) dX10_readsCommand_141 (by decide) ?_ ?_
            · refine gm_iconst (v := 0) dX10_readsCommand_148 (by decide) ?_
              exact gm_weak (lsub_s (lsub_n (lsub_n lsub_0))) (k_X10_readsCommand_149 q12.2 0)
            · refine gm_iconst (v := 1) dX10_readsCommand_144 (by decide) ?_
              refine gm_goto (tgt := 149) dX10_readsCommand_145 (by decide) ?_
              exact gm_weak (lsub_s (lsub_n (lsub_n lsub_0))) (k_X10_readsCommand_149 q12.2 1)
    · refine gm_aload_n dX10_readsCommand_66 rfl rfl ?_
      refine gm_iconst (v := 0) dX10_readsCommand_67 (by decide) ?_
      refine gm_iconst (v := 1) dX10_readsCommand_68 (by decide) ?_
      refine gm_bipush (v := 9) dX10_readsCommand_69 (by decide) ?_
      refine gm_iconst (v := 0) dX10_readsCommand_71 (by decide) ?_
      refine gm_callVi (As := [.int (0), .int (1), .int (9), .int (0)]) dX10_readsCommand_72 (t_X10_reads w3 0 1 9 0) ce_8_0 rfl cy_X10_reads tb_1243 rfl rfl (rm_ok (by decide) (by decide)) (Nat.le_of_ble_eq_true rfl) (fun q13 => ?_)
      refine gm_if_eq (tgt := 102) dX10_readsCommand_75 (by decide) ?_ ?_
      · refine gm_iconst (v := 0) dX10_readsCommand_102 (by decide) ?_
        exact gm_zret dX10_readsCommand_103 rfl
      · refine gm_aload_n dX10_readsCommand_78 rfl rfl ?_
        refine gm_bipush (v := 62) dX10_readsCommand_79 (by decide) ?_
        refine gm_callVi (As := [.int (62)]) dX10_readsCommand_81 (t_X10_takes q13.2 62) ce_8_0 rfl cy_X10_takes tb_1247 rfl rfl (rm_ok (by decide) (by decide)) (Nat.le_of_ble_eq_true rfl) (fun q14 => ?_)
        refine gm_if_eq (tgt := 102) dX10_readsCommand_84 (by decide) ?_ ?_
        · refine gm_iconst (v := 0) dX10_readsCommand_102 (by decide) ?_
          exact gm_zret dX10_readsCommand_103 rfl
        · refine gm_aload_n dX10_readsCommand_87 rfl rfl ?_
          refine gm_iconst (v := 1) dX10_readsCommand_88 (by decide) ?_
          refine gm_iconst (v := 1) dX10_readsCommand_89 (by decide) ?_
          refine gm_iconst (v := 1) dX10_readsCommand_90 (by decide) ?_
          refine gm_iconst (v := 1) dX10_readsCommand_91 (by decide) ?_
          refine gm_callVi (As := [.int (1), .int (1), .int (1), .int (1)]) dX10_readsCommand_92 (t_X10_reads q14.2 1 1 1 1) ce_8_0 rfl cy_X10_reads tb_1243 rfl rfl (rm_ok (by decide) (by decide)) (Nat.le_of_ble_eq_true rfl) (fun q15 => ?_)
          refine gm_if_eq (tgt := 102) dX10_readsCommand_95 (by decide) ?_ ?_
          · refine gm_iconst (v := 0) dX10_readsCommand_102 (by decide) ?_
            exact gm_zret dX10_readsCommand_103 rfl
          · refine gm_iconst (v := 1) dX10_readsCommand_98 (by decide) ?_
            refine gm_goto (tgt := 103) dX10_readsCommand_99 (by decide) ?_
            exact gm_zret dX10_readsCommand_103 rfl
  · refine gm_aload_n dX10_readsCommand_51 rfl rfl ?_
    refine gm_iconst (v := 0) dX10_readsCommand_52 (by decide) ?_
    refine gm_iconst (v := 1) dX10_readsCommand_53 (by decide) ?_
    refine gm_iconst (v := 1) dX10_readsCommand_54 (by decide) ?_
    refine gm_iconst (v := 1) dX10_readsCommand_55 (by decide) ?_
    refine gm_callVi (As := [.int (0), .int (1), .int (1), .int (1)]) dX10_readsCommand_56 (t_X10_reads w3 0 1 1 1) ce_8_0 rfl cy_X10_reads tb_1243 rfl rfl (rm_ok (by decide) (by decide)) (Nat.le_of_ble_eq_true rfl) (fun q16 => ?_)
    exact gm_zret_g dX10_readsCommand_59
noncomputable def f_X10_readsCommand (w : Wd) : Option (Int32 × Wd) :=
  (f_X10_sign w).bind fun q1 =>
  if q1.1 = 114 then
    j_X10_readsCommand_25 q1.2 q1.1
  else
    if q1.1 = 112 then
      j_X10_readsCommand_25 q1.2 q1.1
    else
      if q1.1 = 108 then
        j_X10_readsCommand_25 q1.2 q1.1
      else
        some (0, q1.2)
set_option maxRecDepth 100000 in
set_option maxHeartbeats 4000000 in
theorem t_X10_readsCommand {l : Launch} {E : En} (w : Wd) : ∀ q, f_X10_readsCommand   w  = some q → Mt l E yX10_readsCommand cX10_readsCommand 3 (some .boolean) (rmk 3) [.ref (E.1 8 0)] w (eI q.1) q.2 := by
  refine Mt.of [some (.ref (E.1 8 0)), none, none] (plainFor_of_name pn_X10) rfl (Nat.le_of_ble_eq_true rfl) rfl ?_
  unfold f_X10_readsCommand
  refine gm_aload_n dX10_readsCommand_0 rfl rfl ?_
  refine gm_callVi (As := []) dX10_readsCommand_1 (t_X10_sign w) ce_8_0 rfl cy_X10_sign tb_1239 rfl rfl (rm_ok (by decide) (by decide)) (Nat.le_of_ble_eq_true rfl) (fun q1 => ?_)
  refine gm_istore_n (lv' := [some (.ref (E.1 8 0)), some (.int (q1.1)), none]) dX10_readsCommand_4 rfl (by decide) rfl rfl ?_
  refine gm_iload_n dX10_readsCommand_5 rfl rfl ?_
  refine gm_bipush (v := 114) dX10_readsCommand_6 (by decide) ?_
  refine gm_icmp_eq (tgt := 25) dX10_readsCommand_8 (by decide) ?_ ?_
  · exact gm_weak (lsub_s (lsub_s (lsub_n lsub_0))) (k_X10_readsCommand_25 q1.2 q1.1)
  · refine gm_iload_n dX10_readsCommand_11 rfl rfl ?_
    refine gm_bipush (v := 112) dX10_readsCommand_12 (by decide) ?_
    refine gm_icmp_eq (tgt := 25) dX10_readsCommand_14 (by decide) ?_ ?_
    · exact gm_weak (lsub_s (lsub_s (lsub_n lsub_0))) (k_X10_readsCommand_25 q1.2 q1.1)
    · refine gm_iload_n dX10_readsCommand_17 rfl rfl ?_
      refine gm_bipush (v := 108) dX10_readsCommand_18 (by decide) ?_
      refine gm_icmp_eq (tgt := 25) dX10_readsCommand_20 (by decide) ?_ ?_
      · exact gm_weak (lsub_s (lsub_s (lsub_n lsub_0))) (k_X10_readsCommand_25 q1.2 q1.1)
      · refine gm_iconst (v := 0) dX10_readsCommand_23 (by decide) ?_
        exact gm_zret dX10_readsCommand_24 rfl

noncomputable def b_X10_readsText_12 (rc12 : Wd → Int32 → Option (Int32 × Wd)) (w : Wd) (y1 : Int32) : Option (Int32 × Wd) :=
  if y1 = 0 then
    if (w 8 0 20) = (w 8 0 19) then
      some (1, w)
    else
      some (0, w)
  else
    (f_X10_readsCommand w).bind fun q3 =>
    if q3.1 = 0 then
      some (0, q3.2)
    else
      letw (wup q3.2 8 0 21 (((q3.2) 8 0 21) + 1)) fun w4 =>
      (f_X10_takes w4 59).bind fun q5 =>
      rc12 q5.2 q5.1
set_option maxRecDepth 100000 in
set_option maxHeartbeats 4000000 in
theorem kb_X10_readsText_12 {l : Launch} {E : En} (rc12 : Wd → Int32 → Option (Int32 × Wd)) (hrc12 : ∀ (w : Wd) (y1 : Int32), Gm l E cX10_readsText 2 RX10 (some .boolean) (rmk (4)) eI (rc12 w y1) w 12 [some (.ref (E.1 8 0)), some (.int (y1))] []) (w : Wd) (y1 : Int32) : Gm l E cX10_readsText 2 RX10 (some .boolean) (rmk (4)) eI (b_X10_readsText_12   rc12 w y1) w 12 [some (.ref (E.1 8 0)), some (.int (y1))] [] := by
  unfold b_X10_readsText_12
  refine gm_iload_n dX10_readsText_12 rfl rfl ?_
  refine gm_if_eq (tgt := 45) dX10_readsText_13 (by decide) ?_ ?_
  · refine gm_aload_n dX10_readsText_45 rfl rfl ?_
    refine gm_get dX10_readsText_46 ce_8_0 rfl inX10 20 (by decide) tb_964 rfl rfl ?_
    refine gm_aload_n dX10_readsText_49 rfl rfl ?_
    refine gm_get dX10_readsText_50 ce_8_0 rfl inX10 19 (by decide) tb_963 rfl rfl ?_
    refine gm_icmp_ne (tgt := 60) dX10_readsText_53 (by decide) ?_ ?_
    · refine gm_iconst (v := 0) dX10_readsText_60 (by decide) ?_
      exact gm_zret dX10_readsText_61 rfl
    · refine gm_iconst (v := 1) dX10_readsText_56 (by decide) ?_
      refine gm_goto (tgt := 61) dX10_readsText_57 (by decide) ?_
      exact gm_zret dX10_readsText_61 rfl
  · refine gm_aload_n dX10_readsText_16 rfl rfl ?_
    refine gm_callVi (As := []) dX10_readsText_17 (t_X10_readsCommand w) ce_8_0 rfl cy_X10_readsCommand tb_1235 rfl rfl (rm_ok (by decide) (by decide)) (Nat.le_of_ble_eq_true rfl) (fun q3 => ?_)
    refine gm_if_ne (tgt := 25) dX10_readsText_20 (by decide) ?_ ?_
    · refine gm_aload_n dX10_readsText_25 rfl rfl ?_
      refine gm_dup dX10_readsText_26 rfl ?_
      refine gm_get dX10_readsText_27 ce_8_0 rfl inX10 21 (by decide) tb_965 rfl rfl ?_
      refine gm_iconst (v := 1) dX10_readsText_30 (by decide) ?_
      refine gm_iadd dX10_readsText_31 ?_
      refine gm_put dX10_readsText_32 ce_8_0 rfl inX10 tyX10 tyX10_ok nmX10 21 (by decide) tb_965 rfl rfl (by decide +kernel) (fun _ => rfl) (fun _ => rfl) (fun w4 => ?_)
      refine gm_aload_n dX10_readsText_35 rfl rfl ?_
      refine gm_bipush (v := 59) dX10_readsText_36 (by decide) ?_
      refine gm_callVi (As := [.int (59)]) dX10_readsText_38 (t_X10_takes w4 59) ce_8_0 rfl cy_X10_takes tb_1247 rfl rfl (rm_ok (by decide) (by decide)) (Nat.le_of_ble_eq_true rfl) (fun q5 => ?_)
      refine gm_istore_n (lv' := [some (.ref (E.1 8 0)), some (.int (q5.1))]) dX10_readsText_41 rfl (by decide) rfl rfl ?_
      refine gm_goto (tgt := 12) dX10_readsText_42 (by decide) ?_
      exact gm_weak (lsub_s (lsub_s lsub_0)) (hrc12 q5.2 q5.1)
    · refine gm_iconst (v := 0) dX10_readsText_23 (by decide) ?_
      exact gm_zret dX10_readsText_24 rfl
noncomputable def h_X10_readsText_12 : Nat → (Wd → Int32 → Option (Int32 × Wd))
  | 0 => fun _ _ => none
  | fu + 1 => b_X10_readsText_12    (h_X10_readsText_12    fu)
set_option maxRecDepth 100000 in
set_option maxHeartbeats 4000000 in
theorem k_X10_readsText_12 {l : Launch} {E : En} : ∀ (fu : Nat) (w : Wd) (y1 : Int32), Gm l E cX10_readsText 2 RX10 (some .boolean) (rmk (4)) eI (h_X10_readsText_12    fu w y1) w 12 [some (.ref (E.1 8 0)), some (.int (y1))] []
  | 0, _, _ => gm_none
  | fu + 1, w, y1 => kb_X10_readsText_12     (h_X10_readsText_12    fu)  (fun w y1 => k_X10_readsText_12      fu w y1) w y1
noncomputable def f_X10_readsText (w : Wd) : Option (Int32 × Wd) :=
  letw (wup w 8 0 20 0) fun w1 =>
  letw (wup w1 8 0 21 0) fun w2 =>
  h_X10_readsText_12 FU w2 1
set_option maxRecDepth 100000 in
set_option maxHeartbeats 4000000 in
theorem t_X10_readsText {l : Launch} {E : En} (w : Wd) : ∀ q, f_X10_readsText   w  = some q → Mt l E yX10_readsText cX10_readsText 2 (some .boolean) (rmk 4) [.ref (E.1 8 0)] w (eI q.1) q.2 := by
  refine Mt.of [some (.ref (E.1 8 0)), none] (plainFor_of_name pn_X10) rfl (Nat.le_of_ble_eq_true rfl) rfl ?_
  unfold f_X10_readsText
  refine gm_aload_n dX10_readsText_0 rfl rfl ?_
  refine gm_iconst (v := 0) dX10_readsText_1 (by decide) ?_
  refine gm_put dX10_readsText_2 ce_8_0 rfl inX10 tyX10 tyX10_ok nmX10 20 (by decide) tb_964 rfl rfl (by decide +kernel) (fun _ => rfl) (fun _ => rfl) (fun w1 => ?_)
  refine gm_aload_n dX10_readsText_5 rfl rfl ?_
  refine gm_iconst (v := 0) dX10_readsText_6 (by decide) ?_
  refine gm_put dX10_readsText_7 ce_8_0 rfl inX10 tyX10 tyX10_ok nmX10 21 (by decide) tb_965 rfl rfl (by decide +kernel) (fun _ => rfl) (fun _ => rfl) (fun w2 => ?_)
  refine gm_iconst (v := 1) dX10_readsText_10 (by decide) ?_
  refine gm_istore_n (lv' := [some (.ref (E.1 8 0)), some (.int (1))]) dX10_readsText_11 rfl (by decide) rfl rfl ?_
  exact gm_weak (lsub_s (lsub_s lsub_0)) (k_X10_readsText_12 FU w2 1)

noncomputable def f_X10_route (w : Wd) (x1 : Int32) (x2 : Int32) : Option (Int32 × Wd) :=
  if ib 1 640 = true then
  if (p_X10_in w x1 0 ((w 8 1 (Int32.toNatClampNeg 1)) - 1)) = 0 then
    some ((-1), w)
  else
    if (p_X10_in w x2 0 7) = 0 then
      some ((-1), w)
    else
      (f_X10_of w x1 x2).bind fun q1 =>
      some (q1.1, q1.2)
  else none
set_option maxRecDepth 100000 in
set_option maxHeartbeats 4000000 in
theorem t_X10_route {l : Launch} {E : En} (w : Wd) (x1 : Int32) (x2 : Int32) : ∀ q, f_X10_route   w x1 x2 = some q → Mt l E yX10_route cX10_route 3 (some .int) (rmk 2) [.ref (E.1 8 0), .int (x1), .int (x2)] w (eI q.1) q.2 := by
  refine Mt.of [some (.ref (E.1 8 0)), some (.int (x1)), some (.int (x2))] (plainFor_of_name pn_X10) rfl (Nat.le_of_ble_eq_true rfl) rfl ?_
  unfold f_X10_route
  refine gm_iload_n dX10_route_0 rfl rfl ?_
  refine gm_iconst (v := 0) dX10_route_1 (by decide) ?_
  refine gm_aload_n dX10_route_2 rfl rfl ?_
  refine gm_get dX10_route_3 ce_8_0 rfl inX10 0 (by decide) tb_944 rfl rfl ?_
  refine gm_iconst (v := 1) dX10_route_6 (by decide) ?_
  refine gm_iald dX10_route_7 ce_8_1 ?_
  refine gm_iconst (v := 1) dX10_route_8 (by decide) ?_
  refine gm_isub dX10_route_9 ?_
  refine gm_callSk (As := [.int (x1), .int (0), .int ((w 8 1 (Int32.toNatClampNeg 1)) - 1)]) dX10_route_10 (tk_X10_in w x1 0 ((w 8 1 (Int32.toNatClampNeg 1)) - 1)) cy_X10_in tb_1033 rfl rfl (rm_ok (by decide) (by decide)) (Nat.le_of_ble_eq_true rfl) ?_
  refine gm_if_eq (tgt := 35) dX10_route_13 (by decide) ?_ ?_
  · refine gm_iconst (v := (-1)) dX10_route_35 (by decide) ?_
    exact gm_iret dX10_route_36
  · refine gm_iload_n dX10_route_16 rfl rfl ?_
    refine gm_iconst (v := 0) dX10_route_17 (by decide) ?_
    refine gm_bipush (v := 7) dX10_route_18 (by decide) ?_
    refine gm_callSk (As := [.int (x2), .int (0), .int (7)]) dX10_route_20 (tk_X10_in w x2 0 7) cy_X10_in tb_1033 rfl rfl (rm_ok (by decide) (by decide)) (Nat.le_of_ble_eq_true rfl) ?_
    refine gm_if_eq (tgt := 35) dX10_route_23 (by decide) ?_ ?_
    · refine gm_iconst (v := (-1)) dX10_route_35 (by decide) ?_
      exact gm_iret dX10_route_36
    · refine gm_aload_n dX10_route_26 rfl rfl ?_
      refine gm_iload_n dX10_route_27 rfl rfl ?_
      refine gm_iload_n dX10_route_28 rfl rfl ?_
      refine gm_callVi (As := [.int (x1), .int (x2)]) dX10_route_29 (t_X10_of w x1 x2) ce_8_0 rfl cy_X10_of tb_1114 rfl rfl (rm_ok (by decide) (by decide)) (Nat.le_of_ble_eq_true rfl) (fun q1 => ?_)
      refine gm_goto (tgt := 36) dX10_route_32 (by decide) ?_
      exact gm_iret dX10_route_36

noncomputable def b_X10_run_28 (rc28 : Wd → Int32 → Option (Int32 × Wd)) (w : Wd) (y1 : Int32) : Option (Int32 × Wd) :=
  if (w 8 0 21) ≤ y1 then
    (f_X10_keeps 2 w).bind fun q3 =>
    letw (wup q3.2 8 0 19 0) fun w4 =>
    some (w4 8 0 21, w4)
  else
    (f_X10_does w y1).bind fun q5 =>
    if q5.1 = 0 then
      (f_X10_copies 2 1 q5.2).bind fun q6 =>
      some ((-1000) - y1, q6.2)
    else
      rc28 q5.2 (y1 + 1)
set_option maxRecDepth 100000 in
set_option maxHeartbeats 4000000 in
theorem kb_X10_run_28 {l : Launch} {E : En} (rc28 : Wd → Int32 → Option (Int32 × Wd)) (hrc28 : ∀ (w : Wd) (y1 : Int32), Gm l E cX10_run 2 RX10 (some .int) (rmk (5)) eI (rc28 w y1) w 28 [some (.ref (E.1 8 0)), some (.int (y1))] []) (w : Wd) (y1 : Int32) : Gm l E cX10_run 2 RX10 (some .int) (rmk (5)) eI (b_X10_run_28   rc28 w y1) w 28 [some (.ref (E.1 8 0)), some (.int (y1))] [] := by
  unfold b_X10_run_28
  refine gm_iload_n dX10_run_28 rfl rfl ?_
  refine gm_aload_n dX10_run_29 rfl rfl ?_
  refine gm_get dX10_run_30 ce_8_0 rfl inX10 21 (by decide) tb_965 rfl rfl ?_
  refine gm_icmp_ge (tgt := 67) dX10_run_33 (by decide) ?_ ?_
  · refine gm_aload_n dX10_run_67 rfl rfl ?_
    refine gm_aload_n dX10_run_68 rfl rfl ?_
    refine gm_get dX10_run_69 ce_8_0 rfl inX10 1 (by decide) tb_945 rfl rfl ?_
    refine gm_callVv (As := [.ref (E.1 8 2)]) dX10_run_72 (t_X10_keeps 2 ce_8_2 w) ce_8_0 rfl cy_X10_keeps tb_1021 rfl rfl (rm_ok (by decide) (by decide)) (Nat.le_of_ble_eq_true rfl) (fun q3 => ?_)
    refine gm_aload_n dX10_run_75 rfl rfl ?_
    refine gm_iconst (v := 0) dX10_run_76 (by decide) ?_
    refine gm_put dX10_run_77 ce_8_0 rfl inX10 tyX10 tyX10_ok nmX10 19 (by decide) tb_963 rfl rfl (by decide +kernel) (fun _ => rfl) (fun _ => rfl) (fun w4 => ?_)
    refine gm_aload_n dX10_run_80 rfl rfl ?_
    refine gm_get dX10_run_81 ce_8_0 rfl inX10 21 (by decide) tb_965 rfl rfl ?_
    exact gm_iret dX10_run_84
  · refine gm_aload_n dX10_run_36 rfl rfl ?_
    refine gm_iload_n dX10_run_37 rfl rfl ?_
    refine gm_callVi (As := [.int (y1)]) dX10_run_38 (t_X10_does w y1) ce_8_0 rfl cy_X10_does tb_1251 rfl rfl (rm_ok (by decide) (by decide)) (Nat.le_of_ble_eq_true rfl) (fun q5 => ?_)
    refine gm_if_ne (tgt := 61) dX10_run_41 (by decide) ?_ ?_
    · refine gm_iinc (v := 1) (lv' := [some (.ref (E.1 8 0)), some (.int (y1 + 1))]) dX10_run_61 rfl (by decide) (by decide) rfl rfl ?_
      refine gm_goto (tgt := 28) dX10_run_64 (by decide) ?_
      exact gm_weak (lsub_s (lsub_s lsub_0)) (hrc28 q5.2 (y1 + 1))
    · refine gm_aload_n dX10_run_44 rfl rfl ?_
      refine gm_get dX10_run_45 ce_8_0 rfl inX10 1 (by decide) tb_945 rfl rfl ?_
      refine gm_aload_n dX10_run_48 rfl rfl ?_
      refine gm_get dX10_run_49 ce_8_0 rfl inX10 0 (by decide) tb_944 rfl rfl ?_
      refine gm_callSv (As := [.ref (E.1 8 2), .ref (E.1 8 1)]) dX10_run_52 (t_X10_copies 2 1 ce_8_2 ce_8_1 q5.2) cy_X10_copies tb_1088 rfl rfl (rm_ok (by decide) (by decide)) (Nat.le_of_ble_eq_true rfl) (fun q6 => ?_)
      refine gm_sipush (v := (-1000)) dX10_run_55 (by decide) ?_
      refine gm_iload_n dX10_run_58 rfl rfl ?_
      refine gm_isub dX10_run_59 ?_
      exact gm_iret dX10_run_60
noncomputable def h_X10_run_28 : Nat → (Wd → Int32 → Option (Int32 × Wd))
  | 0 => fun _ _ => none
  | fu + 1 => b_X10_run_28    (h_X10_run_28    fu)
set_option maxRecDepth 100000 in
set_option maxHeartbeats 4000000 in
theorem k_X10_run_28 {l : Launch} {E : En} : ∀ (fu : Nat) (w : Wd) (y1 : Int32), Gm l E cX10_run 2 RX10 (some .int) (rmk (5)) eI (h_X10_run_28    fu w y1) w 28 [some (.ref (E.1 8 0)), some (.int (y1))] []
  | 0, _, _ => gm_none
  | fu + 1, w, y1 => kb_X10_run_28     (h_X10_run_28    fu)  (fun w y1 => k_X10_run_28      fu w y1) w y1
noncomputable def f_X10_run (w : Wd) : Option (Int32 × Wd) :=
  (f_X10_readsText w).bind fun q1 =>
  if q1.1 = 0 then
    some ((-100) - ((q1.2) 8 0 20), q1.2)
  else
    (f_X10_copies 1 2 q1.2).bind fun q2 =>
    h_X10_run_28 FU q2.2 0
set_option maxRecDepth 100000 in
set_option maxHeartbeats 4000000 in
theorem t_X10_run {l : Launch} {E : En} (w : Wd) : ∀ q, f_X10_run   w  = some q → Mt l E yX10_run cX10_run 2 (some .int) (rmk 5) [.ref (E.1 8 0)] w (eI q.1) q.2 := by
  refine Mt.of [some (.ref (E.1 8 0)), none] (plainFor_of_name pn_X10) rfl (Nat.le_of_ble_eq_true rfl) rfl ?_
  unfold f_X10_run
  refine gm_aload_n dX10_run_0 rfl rfl ?_
  refine gm_callVi (As := []) dX10_run_1 (t_X10_readsText w) ce_8_0 rfl cy_X10_readsText tb_1231 rfl rfl (rm_ok (by decide) (by decide)) (Nat.le_of_ble_eq_true rfl) (fun q1 => ?_)
  refine gm_if_ne (tgt := 15) dX10_run_4 (by decide) ?_ ?_
  · refine gm_aload_n dX10_run_15 rfl rfl ?_
    refine gm_get dX10_run_16 ce_8_0 rfl inX10 0 (by decide) tb_944 rfl rfl ?_
    refine gm_aload_n dX10_run_19 rfl rfl ?_
    refine gm_get dX10_run_20 ce_8_0 rfl inX10 1 (by decide) tb_945 rfl rfl ?_
    refine gm_callSv (As := [.ref (E.1 8 1), .ref (E.1 8 2)]) dX10_run_23 (t_X10_copies 1 2 ce_8_1 ce_8_2 q1.2) cy_X10_copies tb_1088 rfl rfl (rm_ok (by decide) (by decide)) (Nat.le_of_ble_eq_true rfl) (fun q2 => ?_)
    refine gm_iconst (v := 0) dX10_run_26 (by decide) ?_
    refine gm_istore_n (lv' := [some (.ref (E.1 8 0)), some (.int (0))]) dX10_run_27 rfl (by decide) rfl rfl ?_
    exact gm_weak (lsub_s (lsub_s lsub_0)) (k_X10_run_28 FU q2.2 0)
  · refine gm_bipush (v := (-100)) dX10_run_7 (by decide) ?_
    refine gm_aload_n dX10_run_9 rfl rfl ?_
    refine gm_get dX10_run_10 ce_8_0 rfl inX10 20 (by decide) tb_964 rfl rfl ?_
    refine gm_isub dX10_run_13 ?_
    exact gm_iret dX10_run_14

noncomputable def f_X10_sets (w : Wd) (x1 : Int32) (x2 : Int32) : Option (Int32 × Wd) :=
  (f_X10_keeps 1 w).bind fun q1 =>
  if ib x1 640 = true then
  leti (q1.2 8 1 (Int32.toNatClampNeg x1)) fun u2 =>
  if ib x1 640 = true then
  letw (wup q1.2 8 1 (Int32.toNatClampNeg x1) x2) fun w3 =>
  some (u2, w3)
  else none
  else none
set_option maxRecDepth 100000 in
set_option maxHeartbeats 4000000 in
theorem t_X10_sets {l : Launch} {E : En} (w : Wd) (x1 : Int32) (x2 : Int32) : ∀ q, f_X10_sets   w x1 x2 = some q → Mt l E yX10_sets cX10_sets 4 (some .int) (rmk 2) [.ref (E.1 8 0), .int (x1), .int (x2)] w (eI q.1) q.2 := by
  refine Mt.of [some (.ref (E.1 8 0)), some (.int (x1)), some (.int (x2)), none] (plainFor_of_name pn_X10) rfl (Nat.le_of_ble_eq_true rfl) rfl ?_
  unfold f_X10_sets
  refine gm_aload_n dX10_sets_0 rfl rfl ?_
  refine gm_aload_n dX10_sets_1 rfl rfl ?_
  refine gm_get dX10_sets_2 ce_8_0 rfl inX10 0 (by decide) tb_944 rfl rfl ?_
  refine gm_callVv (As := [.ref (E.1 8 1)]) dX10_sets_5 (t_X10_keeps 1 ce_8_1 w) ce_8_0 rfl cy_X10_keeps tb_1021 rfl rfl (rm_ok (by decide) (by decide)) (Nat.le_of_ble_eq_true rfl) (fun q1 => ?_)
  refine gm_aload_n dX10_sets_8 rfl rfl ?_
  refine gm_get dX10_sets_9 ce_8_0 rfl inX10 0 (by decide) tb_944 rfl rfl ?_
  refine gm_iload_n dX10_sets_12 rfl rfl ?_
  refine gm_iald dX10_sets_13 ce_8_1 ?_
  refine gm_leti_st (fun u2 => ?_)
  refine gm_istore_n (lv' := [some (.ref (E.1 8 0)), some (.int (x1)), some (.int (x2)), some (.int (u2))]) dX10_sets_14 rfl (by decide) rfl rfl ?_
  refine gm_aload_n dX10_sets_15 rfl rfl ?_
  refine gm_get dX10_sets_16 ce_8_0 rfl inX10 0 (by decide) tb_944 rfl rfl ?_
  refine gm_iload_n dX10_sets_19 rfl rfl ?_
  refine gm_iload_n dX10_sets_20 rfl rfl ?_
  refine gm_iast dX10_sets_21 ce_8_1 (fun w3 => ?_)
  refine gm_iload_n dX10_sets_22 rfl rfl ?_
  exact gm_iret dX10_sets_23

noncomputable def f_X10_setCodes (w : Wd) (x1 : Int32) (x2 : Int32) : Option (Int32 × Wd) :=
  (f_X10_isSwitch w x1).bind fun q1 =>
  if q1.1 = 0 then
    some ((-1), q1.2)
  else
    if (p_X10_in q1.2 x2 0 62) = 0 then
      some ((-1), q1.2)
    else
      if (x2 - x2 / 2 * 2) = 0 then
        (f_X10_sets q1.2 (18 + x1) x2).bind fun q2 =>
        some (q2.1, q2.2)
      else
        some ((-1), q1.2)
set_option maxRecDepth 100000 in
set_option maxHeartbeats 4000000 in
theorem t_X10_setCodes {l : Launch} {E : En} (w : Wd) (x1 : Int32) (x2 : Int32) : ∀ q, f_X10_setCodes   w x1 x2 = some q → Mt l E yX10_setCodes cX10_setCodes 3 (some .int) (rmk 3) [.ref (E.1 8 0), .int (x1), .int (x2)] w (eI q.1) q.2 := by
  refine Mt.of [some (.ref (E.1 8 0)), some (.int (x1)), some (.int (x2))] (plainFor_of_name pn_X10) rfl (Nat.le_of_ble_eq_true rfl) rfl ?_
  unfold f_X10_setCodes
  refine gm_aload_n dX10_setCodes_0 rfl rfl ?_
  refine gm_iload_n dX10_setCodes_1 rfl rfl ?_
  refine gm_callVi (As := [.int (x1)]) dX10_setCodes_2 (t_X10_isSwitch w x1) ce_8_0 rfl cy_X10_isSwitch tb_1029 rfl rfl (rm_ok (by decide) (by decide)) (Nat.le_of_ble_eq_true rfl) (fun q1 => ?_)
  refine gm_if_eq (tgt := 36) dX10_setCodes_5 (by decide) ?_ ?_
  · refine gm_iconst (v := (-1)) dX10_setCodes_36 (by decide) ?_
    exact gm_iret dX10_setCodes_37
  · refine gm_iload_n dX10_setCodes_8 rfl rfl ?_
    refine gm_iconst (v := 0) dX10_setCodes_9 (by decide) ?_
    refine gm_bipush (v := 62) dX10_setCodes_10 (by decide) ?_
    refine gm_callSk (As := [.int (x2), .int (0), .int (62)]) dX10_setCodes_12 (tk_X10_in q1.2 x2 0 62) cy_X10_in tb_1033 rfl rfl (rm_ok (by decide) (by decide)) (Nat.le_of_ble_eq_true rfl) ?_
    refine gm_if_eq (tgt := 36) dX10_setCodes_15 (by decide) ?_ ?_
    · refine gm_iconst (v := (-1)) dX10_setCodes_36 (by decide) ?_
      exact gm_iret dX10_setCodes_37
    · refine gm_iload_n dX10_setCodes_18 rfl rfl ?_
      refine gm_iconst (v := 2) dX10_setCodes_19 (by decide) ?_
      refine gm_irem dX10_setCodes_20 (by decide) ?_
      refine gm_if_ne (tgt := 36) dX10_setCodes_21 (by decide) ?_ ?_
      · refine gm_iconst (v := (-1)) dX10_setCodes_36 (by decide) ?_
        exact gm_iret dX10_setCodes_37
      · refine gm_aload_n dX10_setCodes_24 rfl rfl ?_
        refine gm_bipush (v := 18) dX10_setCodes_25 (by decide) ?_
        refine gm_iload_n dX10_setCodes_27 rfl rfl ?_
        refine gm_iadd dX10_setCodes_28 ?_
        refine gm_iload_n dX10_setCodes_29 rfl rfl ?_
        refine gm_callVi (As := [.int (18 + x1), .int (x2)]) dX10_setCodes_30 (t_X10_sets q1.2 (18 + x1) x2) ce_8_0 rfl cy_X10_sets tb_1036 rfl rfl (rm_ok (by decide) (by decide)) (Nat.le_of_ble_eq_true rfl) (fun q2 => ?_)
        refine gm_goto (tgt := 37) dX10_setCodes_33 (by decide) ?_
        exact gm_iret dX10_setCodes_37

noncomputable def f_X10_setCost (w : Wd) (x1 : Int32) (x2 : Int32) (x3 : Int32) : Option (Int32 × Wd) :=
  if ib 1 640 = true then
  if (p_X10_in w x1 0 ((w 8 1 (Int32.toNatClampNeg 1)) - 1)) = 0 then
    some ((-1), w)
  else
    if (p_X10_in w x2 0 2) = 0 then
      some ((-1), w)
    else
      if (p_X10_in w x3 0 1000) = 0 then
        some ((-1), w)
      else
        (f_X10_sets w (((30 + (8 * x1)) + 3) + x2) x3).bind fun q1 =>
        some (q1.1, q1.2)
  else none
set_option maxRecDepth 100000 in
set_option maxHeartbeats 4000000 in
theorem t_X10_setCost {l : Launch} {E : En} (w : Wd) (x1 : Int32) (x2 : Int32) (x3 : Int32) : ∀ q, f_X10_setCost   w x1 x2 x3 = some q → Mt l E yX10_setCost cX10_setCost 4 (some .int) (rmk 3) [.ref (E.1 8 0), .int (x1), .int (x2), .int (x3)] w (eI q.1) q.2 := by
  refine Mt.of [some (.ref (E.1 8 0)), some (.int (x1)), some (.int (x2)), some (.int (x3))] (plainFor_of_name pn_X10) rfl (Nat.le_of_ble_eq_true rfl) rfl ?_
  unfold f_X10_setCost
  refine gm_iload_n dX10_setCost_0 rfl rfl ?_
  refine gm_iconst (v := 0) dX10_setCost_1 (by decide) ?_
  refine gm_aload_n dX10_setCost_2 rfl rfl ?_
  refine gm_get dX10_setCost_3 ce_8_0 rfl inX10 0 (by decide) tb_944 rfl rfl ?_
  refine gm_iconst (v := 1) dX10_setCost_6 (by decide) ?_
  refine gm_iald dX10_setCost_7 ce_8_1 ?_
  refine gm_iconst (v := 1) dX10_setCost_8 (by decide) ?_
  refine gm_isub dX10_setCost_9 ?_
  refine gm_callSk (As := [.int (x1), .int (0), .int ((w 8 1 (Int32.toNatClampNeg 1)) - 1)]) dX10_setCost_10 (tk_X10_in w x1 0 ((w 8 1 (Int32.toNatClampNeg 1)) - 1)) cy_X10_in tb_1033 rfl rfl (rm_ok (by decide) (by decide)) (Nat.le_of_ble_eq_true rfl) ?_
  refine gm_if_eq (tgt := 55) dX10_setCost_13 (by decide) ?_ ?_
  · refine gm_iconst (v := (-1)) dX10_setCost_55 (by decide) ?_
    exact gm_iret dX10_setCost_56
  · refine gm_iload_n dX10_setCost_16 rfl rfl ?_
    refine gm_iconst (v := 0) dX10_setCost_17 (by decide) ?_
    refine gm_iconst (v := 2) dX10_setCost_18 (by decide) ?_
    refine gm_callSk (As := [.int (x2), .int (0), .int (2)]) dX10_setCost_19 (tk_X10_in w x2 0 2) cy_X10_in tb_1033 rfl rfl (rm_ok (by decide) (by decide)) (Nat.le_of_ble_eq_true rfl) ?_
    refine gm_if_eq (tgt := 55) dX10_setCost_22 (by decide) ?_ ?_
    · refine gm_iconst (v := (-1)) dX10_setCost_55 (by decide) ?_
      exact gm_iret dX10_setCost_56
    · refine gm_iload_n dX10_setCost_25 rfl rfl ?_
      refine gm_iconst (v := 0) dX10_setCost_26 (by decide) ?_
      refine gm_sipush (v := 1000) dX10_setCost_27 (by decide) ?_
      refine gm_callSk (As := [.int (x3), .int (0), .int (1000)]) dX10_setCost_30 (tk_X10_in w x3 0 1000) cy_X10_in tb_1033 rfl rfl (rm_ok (by decide) (by decide)) (Nat.le_of_ble_eq_true rfl) ?_
      refine gm_if_eq (tgt := 55) dX10_setCost_33 (by decide) ?_ ?_
      · refine gm_iconst (v := (-1)) dX10_setCost_55 (by decide) ?_
        exact gm_iret dX10_setCost_56
      · refine gm_aload_n dX10_setCost_36 rfl rfl ?_
        refine gm_bipush (v := 30) dX10_setCost_37 (by decide) ?_
        refine gm_bipush (v := 8) dX10_setCost_39 (by decide) ?_
        refine gm_iload_n dX10_setCost_41 rfl rfl ?_
        refine gm_imul dX10_setCost_42 ?_
        refine gm_iadd dX10_setCost_43 ?_
        refine gm_iconst (v := 3) dX10_setCost_44 (by decide) ?_
        refine gm_iadd dX10_setCost_45 ?_
        refine gm_iload_n dX10_setCost_46 rfl rfl ?_
        refine gm_iadd dX10_setCost_47 ?_
        refine gm_iload_n dX10_setCost_48 rfl rfl ?_
        refine gm_callVi (As := [.int (((30 + (8 * x1)) + 3) + x2), .int (x3)]) dX10_setCost_49 (t_X10_sets w (((30 + (8 * x1)) + 3) + x2) x3) ce_8_0 rfl cy_X10_sets tb_1036 rfl rfl (rm_ok (by decide) (by decide)) (Nat.le_of_ble_eq_true rfl) (fun q1 => ?_)
        refine gm_goto (tgt := 56) dX10_setCost_52 (by decide) ?_
        exact gm_iret dX10_setCost_56

noncomputable def f_X10_setLimit (w : Wd) (x1 : Int32) : Option (Int32 × Wd) :=
  if (p_X10_in w x1 1 6) = 0 then
    some ((-1), w)
  else
    (f_X10_sets w 3 x1).bind fun q1 =>
    some (q1.1, q1.2)
set_option maxRecDepth 100000 in
set_option maxHeartbeats 4000000 in
theorem t_X10_setLimit {l : Launch} {E : En} (w : Wd) (x1 : Int32) : ∀ q, f_X10_setLimit   w x1 = some q → Mt l E yX10_setLimit cX10_setLimit 2 (some .int) (rmk 3) [.ref (E.1 8 0), .int (x1)] w (eI q.1) q.2 := by
  refine Mt.of [some (.ref (E.1 8 0)), some (.int (x1))] (plainFor_of_name pn_X10) rfl (Nat.le_of_ble_eq_true rfl) rfl ?_
  unfold f_X10_setLimit
  refine gm_iload_n dX10_setLimit_0 rfl rfl ?_
  refine gm_iconst (v := 1) dX10_setLimit_1 (by decide) ?_
  refine gm_bipush (v := 6) dX10_setLimit_2 (by decide) ?_
  refine gm_callSk (As := [.int (x1), .int (1), .int (6)]) dX10_setLimit_4 (tk_X10_in w x1 1 6) cy_X10_in tb_1033 rfl rfl (rm_ok (by decide) (by decide)) (Nat.le_of_ble_eq_true rfl) ?_
  refine gm_if_eq (tgt := 19) dX10_setLimit_7 (by decide) ?_ ?_
  · refine gm_iconst (v := (-1)) dX10_setLimit_19 (by decide) ?_
    exact gm_iret dX10_setLimit_20
  · refine gm_aload_n dX10_setLimit_10 rfl rfl ?_
    refine gm_iconst (v := 3) dX10_setLimit_11 (by decide) ?_
    refine gm_iload_n dX10_setLimit_12 rfl rfl ?_
    refine gm_callVi (As := [.int (3), .int (x1)]) dX10_setLimit_13 (t_X10_sets w 3 x1) ce_8_0 rfl cy_X10_sets tb_1036 rfl rfl (rm_ok (by decide) (by decide)) (Nat.le_of_ble_eq_true rfl) (fun q1 => ?_)
    refine gm_goto (tgt := 20) dX10_setLimit_16 (by decide) ?_
    exact gm_iret dX10_setLimit_20

noncomputable def f_X10_setLookup (w : Wd) (x1 : Int32) (x2 : Int32) : Option (Int32 × Wd) :=
  (f_X10_isSwitch w x1).bind fun q1 =>
  if q1.1 = 0 then
    some ((-1), q1.2)
  else
    if x2 = 0 then
      (f_X10_sets q1.2 (10 + x1) 0).bind fun q2 =>
      some (q2.1, q2.2)
    else
      (f_X10_sets q1.2 (10 + x1) 1).bind fun q3 =>
      some (q3.1, q3.2)
set_option maxRecDepth 100000 in
set_option maxHeartbeats 4000000 in
theorem t_X10_setLookup {l : Launch} {E : En} (w : Wd) (x1 : Int32) (x2 : Int32) : ∀ q, f_X10_setLookup   w x1 x2 = some q → Mt l E yX10_setLookup cX10_setLookup 3 (some .int) (rmk 3) [.ref (E.1 8 0), .int (x1), .int (x2)] w (eI q.1) q.2 := by
  refine Mt.of [some (.ref (E.1 8 0)), some (.int (x1)), some (.int (x2))] (plainFor_of_name pn_X10) rfl (Nat.le_of_ble_eq_true rfl) rfl ?_
  unfold f_X10_setLookup
  refine gm_aload_n dX10_setLookup_0 rfl rfl ?_
  refine gm_iload_n dX10_setLookup_1 rfl rfl ?_
  refine gm_callVi (As := [.int (x1)]) dX10_setLookup_2 (t_X10_isSwitch w x1) ce_8_0 rfl cy_X10_isSwitch tb_1029 rfl rfl (rm_ok (by decide) (by decide)) (Nat.le_of_ble_eq_true rfl) (fun q1 => ?_)
  refine gm_if_eq (tgt := 28) dX10_setLookup_5 (by decide) ?_ ?_
  · refine gm_iconst (v := (-1)) dX10_setLookup_28 (by decide) ?_
    exact gm_iret dX10_setLookup_29
  · refine gm_aload_n dX10_setLookup_8 rfl rfl ?_
    refine gm_bipush (v := 10) dX10_setLookup_9 (by decide) ?_
    refine gm_iload_n dX10_setLookup_11 rfl rfl ?_
    refine gm_iadd dX10_setLookup_12 ?_
    refine gm_iload_n dX10_setLookup_13 rfl rfl ?_
    refine gm_if_eq (tgt := 21) dX10_setLookup_14 (by decide) ?_ ?_
    · refine gm_iconst (v := 0) dX10_setLookup_21 (by decide) ?_
      refine gm_callVi (As := [.int (10 + x1), .int (0)]) dX10_setLookup_22 (t_X10_sets q1.2 (10 + x1) 0) ce_8_0 rfl cy_X10_sets tb_1036 rfl rfl (rm_ok (by decide) (by decide)) (Nat.le_of_ble_eq_true rfl) (fun q2 => ?_)
      refine gm_goto (tgt := 29) dX10_setLookup_25 (by decide) ?_
      exact gm_iret dX10_setLookup_29
    · refine gm_iconst (v := 1) dX10_setLookup_17 (by decide) ?_
      refine gm_goto (tgt := 22) dX10_setLookup_18 (by decide) ?_
      refine gm_callVi (As := [.int (10 + x1), .int (1)]) dX10_setLookup_22 (t_X10_sets q1.2 (10 + x1) 1) ce_8_0 rfl cy_X10_sets tb_1036 rfl rfl (rm_ok (by decide) (by decide)) (Nat.le_of_ble_eq_true rfl) (fun q3 => ?_)
      refine gm_goto (tgt := 29) dX10_setLookup_25 (by decide) ?_
      exact gm_iret dX10_setLookup_29

noncomputable def f_X10_time (w : Wd) : Option (Int32 × Wd) :=
  if ib 4 640 = true then
  some (w 8 1 (Int32.toNatClampNeg 4), w)
  else none
set_option maxRecDepth 100000 in
set_option maxHeartbeats 4000000 in
theorem t_X10_time {l : Launch} {E : En} (w : Wd) : ∀ q, f_X10_time   w  = some q → Mt l E yX10_time cX10_time 1 (some .int) (rmk 1) [.ref (E.1 8 0)] w (eI q.1) q.2 := by
  refine Mt.of [some (.ref (E.1 8 0))] (plainFor_of_name pn_X10) rfl (Nat.le_of_ble_eq_true rfl) rfl ?_
  unfold f_X10_time
  refine gm_aload_n dX10_time_0 rfl rfl ?_
  refine gm_get dX10_time_1 ce_8_0 rfl inX10 0 (by decide) tb_944 rfl rfl ?_
  refine gm_iconst (v := 4) dX10_time_4 (by decide) ?_
  refine gm_iald dX10_time_5 ce_8_1 ?_
  exact gm_iret dX10_time_6

noncomputable def f_X10_type (w : Wd) (x1 : Int32) : Option (Int32 × Wd) :=
  if (p_X10_in w x1 32 126) = 0 then
    some ((-1), w)
  else
    if (w 8 0 19) = 80 then
      some ((-3), w)
    else
      if ib (w 8 0 19) 80 = true then
      letw (wup w 8 14 (Int32.toNatClampNeg (w 8 0 19)) x1) fun w1 =>
      letw (wup w1 8 0 19 ((w1 8 0 19) + 1)) fun w2 =>
      some (w2 8 0 19, w2)
      else none
set_option maxRecDepth 100000 in
set_option maxHeartbeats 4000000 in
theorem t_X10_type {l : Launch} {E : En} (w : Wd) (x1 : Int32) : ∀ q, f_X10_type   w x1 = some q → Mt l E yX10_type cX10_type 2 (some .int) (rmk 2) [.ref (E.1 8 0), .int (x1)] w (eI q.1) q.2 := by
  refine Mt.of [some (.ref (E.1 8 0)), some (.int (x1))] (plainFor_of_name pn_X10) rfl (Nat.le_of_ble_eq_true rfl) rfl ?_
  unfold f_X10_type
  refine gm_iload_n dX10_type_0 rfl rfl ?_
  refine gm_bipush (v := 32) dX10_type_1 (by decide) ?_
  refine gm_bipush (v := 126) dX10_type_3 (by decide) ?_
  refine gm_callSk (As := [.int (x1), .int (32), .int (126)]) dX10_type_5 (tk_X10_in w x1 32 126) cy_X10_in tb_1033 rfl rfl (rm_ok (by decide) (by decide)) (Nat.le_of_ble_eq_true rfl) ?_
  refine gm_if_ne (tgt := 13) dX10_type_8 (by decide) ?_ ?_
  · refine gm_aload_n dX10_type_13 rfl rfl ?_
    refine gm_get dX10_type_14 ce_8_0 rfl inX10 19 (by decide) tb_963 rfl rfl ?_
    refine gm_bipush (v := 80) dX10_type_17 (by decide) ?_
    refine gm_icmp_ne (tgt := 25) dX10_type_19 (by decide) ?_ ?_
    · refine gm_aload_n dX10_type_25 rfl rfl ?_
      refine gm_get dX10_type_26 ce_8_0 rfl inX10 18 (by decide) tb_962 rfl rfl ?_
      refine gm_aload_n dX10_type_29 rfl rfl ?_
      refine gm_get dX10_type_30 ce_8_0 rfl inX10 19 (by decide) tb_963 rfl rfl ?_
      refine gm_iload_n dX10_type_33 rfl rfl ?_
      refine gm_iast dX10_type_34 ce_8_14 (fun w1 => ?_)
      refine gm_aload_n dX10_type_35 rfl rfl ?_
      refine gm_dup dX10_type_36 rfl ?_
      refine gm_get dX10_type_37 ce_8_0 rfl inX10 19 (by decide) tb_963 rfl rfl ?_
      refine gm_iconst (v := 1) dX10_type_40 (by decide) ?_
      refine gm_iadd dX10_type_41 ?_
      refine gm_put dX10_type_42 ce_8_0 rfl inX10 tyX10 tyX10_ok nmX10 19 (by decide) tb_963 rfl rfl (by decide +kernel) (fun _ => rfl) (fun _ => rfl) (fun w2 => ?_)
      refine gm_aload_n dX10_type_45 rfl rfl ?_
      refine gm_get dX10_type_46 ce_8_0 rfl inX10 19 (by decide) tb_963 rfl rfl ?_
      exact gm_iret dX10_type_49
    · refine gm_bipush (v := (-3)) dX10_type_22 (by decide) ?_
      exact gm_iret dX10_type_24
  · refine gm_iconst (v := (-1)) dX10_type_11 (by decide) ?_
    exact gm_iret dX10_type_12

noncomputable def b_X10_undo_22 (rc22 : Wd → Int32 → Option (Int32 × Wd)) (w : Wd) (y1 : Int32) : Option (Int32 × Wd) :=
  if 640 ≤ y1 then
    some (w 8 0 3, w)
  else
    if ib ((640 * (w 8 0 3)) + y1) 3200 = true then
    if ib y1 640 = true then
    letw (wup w 8 1 (Int32.toNatClampNeg y1) (w 8 3 (Int32.toNatClampNeg ((640 * (w 8 0 3)) + y1)))) fun w2 =>
    rc22 w2 (y1 + 1)
    else none
    else none
set_option maxRecDepth 100000 in
set_option maxHeartbeats 4000000 in
theorem kb_X10_undo_22 {l : Launch} {E : En} (rc22 : Wd → Int32 → Option (Int32 × Wd)) (hrc22 : ∀ (w : Wd) (y1 : Int32), Gm l E cX10_undo 2 RX10 (some .int) (rmk (1)) eI (rc22 w y1) w 22 [some (.ref (E.1 8 0)), some (.int (y1))] []) (w : Wd) (y1 : Int32) : Gm l E cX10_undo 2 RX10 (some .int) (rmk (1)) eI (b_X10_undo_22   rc22 w y1) w 22 [some (.ref (E.1 8 0)), some (.int (y1))] [] := by
  unfold b_X10_undo_22
  refine gm_iload_n dX10_undo_22 rfl rfl ?_
  refine gm_sipush (v := 640) dX10_undo_23 (by decide) ?_
  refine gm_icmp_ge (tgt := 56) dX10_undo_26 (by decide) ?_ ?_
  · refine gm_aload_n dX10_undo_56 rfl rfl ?_
    refine gm_get dX10_undo_57 ce_8_0 rfl inX10 3 (by decide) tb_947 rfl rfl ?_
    exact gm_iret dX10_undo_60
  · refine gm_aload_n dX10_undo_29 rfl rfl ?_
    refine gm_get dX10_undo_30 ce_8_0 rfl inX10 0 (by decide) tb_944 rfl rfl ?_
    refine gm_iload_n dX10_undo_33 rfl rfl ?_
    refine gm_aload_n dX10_undo_34 rfl rfl ?_
    refine gm_get dX10_undo_35 ce_8_0 rfl inX10 2 (by decide) tb_946 rfl rfl ?_
    refine gm_sipush (v := 640) dX10_undo_38 (by decide) ?_
    refine gm_aload_n dX10_undo_41 rfl rfl ?_
    refine gm_get dX10_undo_42 ce_8_0 rfl inX10 3 (by decide) tb_947 rfl rfl ?_
    refine gm_imul dX10_undo_45 ?_
    refine gm_iload_n dX10_undo_46 rfl rfl ?_
    refine gm_iadd dX10_undo_47 ?_
    refine gm_iald dX10_undo_48 ce_8_3 ?_
    refine gm_iast dX10_undo_49 ce_8_1 (fun w2 => ?_)
    refine gm_iinc (v := 1) (lv' := [some (.ref (E.1 8 0)), some (.int (y1 + 1))]) dX10_undo_50 rfl (by decide) (by decide) rfl rfl ?_
    refine gm_goto (tgt := 22) dX10_undo_53 (by decide) ?_
    exact gm_weak (lsub_s (lsub_s lsub_0)) (hrc22 w2 (y1 + 1))
noncomputable def h_X10_undo_22 : Nat → (Wd → Int32 → Option (Int32 × Wd))
  | 0 => fun _ _ => none
  | fu + 1 => b_X10_undo_22    (h_X10_undo_22    fu)
set_option maxRecDepth 100000 in
set_option maxHeartbeats 4000000 in
theorem k_X10_undo_22 {l : Launch} {E : En} : ∀ (fu : Nat) (w : Wd) (y1 : Int32), Gm l E cX10_undo 2 RX10 (some .int) (rmk (1)) eI (h_X10_undo_22    fu w y1) w 22 [some (.ref (E.1 8 0)), some (.int (y1))] []
  | 0, _, _ => gm_none
  | fu + 1, w, y1 => kb_X10_undo_22     (h_X10_undo_22    fu)  (fun w y1 => k_X10_undo_22      fu w y1) w y1
noncomputable def f_X10_undo (w : Wd) : Option (Int32 × Wd) :=
  if (w 8 0 3) = 0 then
    some ((-9), w)
  else
    letw (wup w 8 0 3 ((w 8 0 3) - 1)) fun w1 =>
    h_X10_undo_22 FU w1 0
set_option maxRecDepth 100000 in
set_option maxHeartbeats 4000000 in
theorem t_X10_undo {l : Launch} {E : En} (w : Wd) : ∀ q, f_X10_undo   w  = some q → Mt l E yX10_undo cX10_undo 2 (some .int) (rmk 1) [.ref (E.1 8 0)] w (eI q.1) q.2 := by
  refine Mt.of [some (.ref (E.1 8 0)), none] (plainFor_of_name pn_X10) rfl (Nat.le_of_ble_eq_true rfl) rfl ?_
  unfold f_X10_undo
  refine gm_aload_n dX10_undo_0 rfl rfl ?_
  refine gm_get dX10_undo_1 ce_8_0 rfl inX10 3 (by decide) tb_947 rfl rfl ?_
  refine gm_if_ne (tgt := 10) dX10_undo_4 (by decide) ?_ ?_
  · refine gm_aload_n dX10_undo_10 rfl rfl ?_
    refine gm_dup dX10_undo_11 rfl ?_
    refine gm_get dX10_undo_12 ce_8_0 rfl inX10 3 (by decide) tb_947 rfl rfl ?_
    refine gm_iconst (v := 1) dX10_undo_15 (by decide) ?_
    refine gm_isub dX10_undo_16 ?_
    refine gm_put dX10_undo_17 ce_8_0 rfl inX10 tyX10 tyX10_ok nmX10 3 (by decide) tb_947 rfl rfl (by decide +kernel) (fun _ => rfl) (fun _ => rfl) (fun w1 => ?_)
    refine gm_iconst (v := 0) dX10_undo_20 (by decide) ?_
    refine gm_istore_n (lv' := [some (.ref (E.1 8 0)), some (.int (0))]) dX10_undo_21 rfl (by decide) rfl rfl ?_
    exact gm_weak (lsub_s (lsub_s lsub_0)) (k_X10_undo_22 FU w1 0)
  · refine gm_bipush (v := (-9)) dX10_undo_7 (by decide) ?_
    exact gm_iret dX10_undo_9

noncomputable def f_X10_unport (w : Wd) (x1 : Int32) : Option (Int32 × Wd) :=
  (f_X10_isNumber w x1).bind fun q1 =>
  if q1.1 = 0 then
    some ((-1), q1.2)
  else
    (f_X10_portOf q1.2 x1).bind fun q2 =>
    if 0 ≤ q2.1 then
      (f_X10_keeps 1 q2.2).bind fun q3 =>
      if ib ((350 + (2 * q2.1)) + 1) 640 = true then
      leti (q3.2 8 1 (Int32.toNatClampNeg ((350 + (2 * q2.1)) + 1))) fun u4 =>
      if ib 2 640 = true then
      if ib 2 640 = true then
      letw (wup q3.2 8 1 (Int32.toNatClampNeg 2) ((q3.2 8 1 (Int32.toNatClampNeg 2)) - 1)) fun w5 =>
      if ib 2 640 = true then
      if ib (350 + (2 * (w5 8 1 (Int32.toNatClampNeg 2)))) 640 = true then
      if ib (350 + (2 * q2.1)) 640 = true then
      letw (wup w5 8 1 (Int32.toNatClampNeg (350 + (2 * q2.1))) (w5 8 1 (Int32.toNatClampNeg (350 + (2 * (w5 8 1 (Int32.toNatClampNeg 2))))))) fun w6 =>
      if ib 2 640 = true then
      if ib ((350 + (2 * (w6 8 1 (Int32.toNatClampNeg 2)))) + 1) 640 = true then
      if ib ((350 + (2 * q2.1)) + 1) 640 = true then
      letw (wup w6 8 1 (Int32.toNatClampNeg ((350 + (2 * q2.1)) + 1)) (w6 8 1 (Int32.toNatClampNeg ((350 + (2 * (w6 8 1 (Int32.toNatClampNeg 2)))) + 1)))) fun w7 =>
      some (u4, w7)
      else none
      else none
      else none
      else none
      else none
      else none
      else none
      else none
      else none
    else
      some ((-9), q2.2)
set_option maxRecDepth 100000 in
set_option maxHeartbeats 4000000 in
theorem t_X10_unport {l : Launch} {E : En} (w : Wd) (x1 : Int32) : ∀ q, f_X10_unport   w x1 = some q → Mt l E yX10_unport cX10_unport 4 (some .int) (rmk 3) [.ref (E.1 8 0), .int (x1)] w (eI q.1) q.2 := by
  refine Mt.of [some (.ref (E.1 8 0)), some (.int (x1)), none, none] (plainFor_of_name pn_X10) rfl (Nat.le_of_ble_eq_true rfl) rfl ?_
  unfold f_X10_unport
  refine gm_iload_n dX10_unport_0 rfl rfl ?_
  refine gm_callSi (As := [.int (x1)]) dX10_unport_1 (t_X10_isNumber w x1) cy_X10_isNumber tb_1069 rfl rfl (rm_ok (by decide) (by decide)) (Nat.le_of_ble_eq_true rfl) (fun q1 => ?_)
  refine gm_if_ne (tgt := 9) dX10_unport_4 (by decide) ?_ ?_
  · refine gm_aload_n dX10_unport_9 rfl rfl ?_
    refine gm_iload_n dX10_unport_10 rfl rfl ?_
    refine gm_callVi (As := [.int (x1)]) dX10_unport_11 (t_X10_portOf q1.2 x1) ce_8_0 rfl cy_X10_portOf tb_1072 rfl rfl (rm_ok (by decide) (by decide)) (Nat.le_of_ble_eq_true rfl) (fun q2 => ?_)
    refine gm_istore_n (lv' := [some (.ref (E.1 8 0)), some (.int (x1)), some (.int (q2.1)), none]) dX10_unport_14 rfl (by decide) rfl rfl ?_
    refine gm_iload_n dX10_unport_15 rfl rfl ?_
    refine gm_if_ge (tgt := 22) dX10_unport_16 (by decide) ?_ ?_
    · refine gm_aload_n dX10_unport_22 rfl rfl ?_
      refine gm_aload_n dX10_unport_23 rfl rfl ?_
      refine gm_get dX10_unport_24 ce_8_0 rfl inX10 0 (by decide) tb_944 rfl rfl ?_
      refine gm_callVv (As := [.ref (E.1 8 1)]) dX10_unport_27 (t_X10_keeps 1 ce_8_1 q2.2) ce_8_0 rfl cy_X10_keeps tb_1021 rfl rfl (rm_ok (by decide) (by decide)) (Nat.le_of_ble_eq_true rfl) (fun q3 => ?_)
      refine gm_aload_n dX10_unport_30 rfl rfl ?_
      refine gm_get dX10_unport_31 ce_8_0 rfl inX10 0 (by decide) tb_944 rfl rfl ?_
      refine gm_sipush (v := 350) dX10_unport_34 (by decide) ?_
      refine gm_iconst (v := 2) dX10_unport_37 (by decide) ?_
      refine gm_iload_n dX10_unport_38 rfl rfl ?_
      refine gm_imul dX10_unport_39 ?_
      refine gm_iadd dX10_unport_40 ?_
      refine gm_iconst (v := 1) dX10_unport_41 (by decide) ?_
      refine gm_iadd dX10_unport_42 ?_
      refine gm_iald dX10_unport_43 ce_8_1 ?_
      refine gm_leti_st (fun u4 => ?_)
      refine gm_istore_n (lv' := [some (.ref (E.1 8 0)), some (.int (x1)), some (.int (q2.1)), some (.int (u4))]) dX10_unport_44 rfl (by decide) rfl rfl ?_
      refine gm_aload_n dX10_unport_45 rfl rfl ?_
      refine gm_get dX10_unport_46 ce_8_0 rfl inX10 0 (by decide) tb_944 rfl rfl ?_
      refine gm_iconst (v := 2) dX10_unport_49 (by decide) ?_
      refine gm_dup2 dX10_unport_50 rfl rfl ?_
      refine gm_iald dX10_unport_51 ce_8_1 ?_
      refine gm_iconst (v := 1) dX10_unport_52 (by decide) ?_
      refine gm_isub dX10_unport_53 ?_
      refine gm_iast dX10_unport_54 ce_8_1 (fun w5 => ?_)
      refine gm_aload_n dX10_unport_55 rfl rfl ?_
      refine gm_get dX10_unport_56 ce_8_0 rfl inX10 0 (by decide) tb_944 rfl rfl ?_
      refine gm_sipush (v := 350) dX10_unport_59 (by decide) ?_
      refine gm_iconst (v := 2) dX10_unport_62 (by decide) ?_
      refine gm_iload_n dX10_unport_63 rfl rfl ?_
      refine gm_imul dX10_unport_64 ?_
      refine gm_iadd dX10_unport_65 ?_
      refine gm_aload_n dX10_unport_66 rfl rfl ?_
      refine gm_get dX10_unport_67 ce_8_0 rfl inX10 0 (by decide) tb_944 rfl rfl ?_
      refine gm_sipush (v := 350) dX10_unport_70 (by decide) ?_
      refine gm_iconst (v := 2) dX10_unport_73 (by decide) ?_
      refine gm_aload_n dX10_unport_74 rfl rfl ?_
      refine gm_get dX10_unport_75 ce_8_0 rfl inX10 0 (by decide) tb_944 rfl rfl ?_
      refine gm_iconst (v := 2) dX10_unport_78 (by decide) ?_
      refine gm_iald dX10_unport_79 ce_8_1 ?_
      refine gm_imul dX10_unport_80 ?_
      refine gm_iadd dX10_unport_81 ?_
      refine gm_iald dX10_unport_82 ce_8_1 ?_
      refine gm_iast dX10_unport_83 ce_8_1 (fun w6 => ?_)
      refine gm_aload_n dX10_unport_84 rfl rfl ?_
      refine gm_get dX10_unport_85 ce_8_0 rfl inX10 0 (by decide) tb_944 rfl rfl ?_
      refine gm_sipush (v := 350) dX10_unport_88 (by decide) ?_
      refine gm_iconst (v := 2) dX10_unport_91 (by decide) ?_
      refine gm_iload_n dX10_unport_92 rfl rfl ?_
      refine gm_imul dX10_unport_93 ?_
      refine gm_iadd dX10_unport_94 ?_
      refine gm_iconst (v := 1) dX10_unport_95 (by decide) ?_
      refine gm_iadd dX10_unport_96 ?_
      refine gm_aload_n dX10_unport_97 rfl rfl ?_
      refine gm_get dX10_unport_98 ce_8_0 rfl inX10 0 (by decide) tb_944 rfl rfl ?_
      refine gm_sipush (v := 350) dX10_unport_101 (by decide) ?_
      refine gm_iconst (v := 2) dX10_unport_104 (by decide) ?_
      refine gm_aload_n dX10_unport_105 rfl rfl ?_
      refine gm_get dX10_unport_106 ce_8_0 rfl inX10 0 (by decide) tb_944 rfl rfl ?_
      refine gm_iconst (v := 2) dX10_unport_109 (by decide) ?_
      refine gm_iald dX10_unport_110 ce_8_1 ?_
      refine gm_imul dX10_unport_111 ?_
      refine gm_iadd dX10_unport_112 ?_
      refine gm_iconst (v := 1) dX10_unport_113 (by decide) ?_
      refine gm_iadd dX10_unport_114 ?_
      refine gm_iald dX10_unport_115 ce_8_1 ?_
      refine gm_iast dX10_unport_116 ce_8_1 (fun w7 => ?_)
      refine gm_iload_n dX10_unport_117 rfl rfl ?_
      exact gm_iret dX10_unport_118
    · refine gm_bipush (v := (-9)) dX10_unport_19 (by decide) ?_
      exact gm_iret dX10_unport_21
  · refine gm_iconst (v := (-1)) dX10_unport_7 (by decide) ?_
    exact gm_iret dX10_unport_8

noncomputable def f_X10_way (w : Wd) (x1 : Int32) (x2 : Int32) : Option (Int32 × Wd) :=
  (f_X10_isCall w x1).bind fun q1 =>
  if q1.1 = 0 then
    some ((-1), q1.2)
  else
    if 0 ≤ x2 then
      leti (420 + (14 * x1)) fun u2 =>
      if ib (u2 + 4) 640 = true then
      if (q1.2 8 1 (Int32.toNatClampNeg (u2 + 4))) ≤ x2 then
        some ((-9), q1.2)
      else
        if ib ((u2 + 5) + x2) 640 = true then
        some (q1.2 8 1 (Int32.toNatClampNeg ((u2 + 5) + x2)), q1.2)
        else none
      else none
    else
      some ((-1), q1.2)
set_option maxRecDepth 100000 in
set_option maxHeartbeats 4000000 in
theorem t_X10_way {l : Launch} {E : En} (w : Wd) (x1 : Int32) (x2 : Int32) : ∀ q, f_X10_way   w x1 x2 = some q → Mt l E yX10_way cX10_way 4 (some .int) (rmk 3) [.ref (E.1 8 0), .int (x1), .int (x2)] w (eI q.1) q.2 := by
  refine Mt.of [some (.ref (E.1 8 0)), some (.int (x1)), some (.int (x2)), none] (plainFor_of_name pn_X10) rfl (Nat.le_of_ble_eq_true rfl) rfl ?_
  unfold f_X10_way
  refine gm_aload_n dX10_way_0 rfl rfl ?_
  refine gm_iload_n dX10_way_1 rfl rfl ?_
  refine gm_callVi (As := [.int (x1)]) dX10_way_2 (t_X10_isCall w x1) ce_8_0 rfl cy_X10_isCall tb_1158 rfl rfl (rm_ok (by decide) (by decide)) (Nat.le_of_ble_eq_true rfl) (fun q1 => ?_)
  refine gm_if_eq (tgt := 12) dX10_way_5 (by decide) ?_ ?_
  · refine gm_iconst (v := (-1)) dX10_way_12 (by decide) ?_
    exact gm_iret dX10_way_13
  · refine gm_iload_n dX10_way_8 rfl rfl ?_
    refine gm_if_ge (tgt := 14) dX10_way_9 (by decide) ?_ ?_
    · refine gm_sipush (v := 420) dX10_way_14 (by decide) ?_
      refine gm_bipush (v := 14) dX10_way_17 (by decide) ?_
      refine gm_iload_n dX10_way_19 rfl rfl ?_
      refine gm_imul dX10_way_20 ?_
      refine gm_iadd dX10_way_21 ?_
      refine gm_leti_st (fun u2 => ?_)
      refine gm_istore_n (lv' := [some (.ref (E.1 8 0)), some (.int (x1)), some (.int (x2)), some (.int (u2))]) dX10_way_22 rfl (by decide) rfl rfl ?_
      refine gm_iload_n dX10_way_23 rfl rfl ?_
      refine gm_aload_n dX10_way_24 rfl rfl ?_
      refine gm_get dX10_way_25 ce_8_0 rfl inX10 0 (by decide) tb_944 rfl rfl ?_
      refine gm_iload_n dX10_way_28 rfl rfl ?_
      refine gm_iconst (v := 4) dX10_way_29 (by decide) ?_
      refine gm_iadd dX10_way_30 ?_
      refine gm_iald dX10_way_31 ce_8_1 ?_
      refine gm_icmp_ge (tgt := 48) dX10_way_32 (by decide) ?_ ?_
      · refine gm_bipush (v := (-9)) dX10_way_48 (by decide) ?_
        exact gm_iret dX10_way_50
      · refine gm_aload_n dX10_way_35 rfl rfl ?_
        refine gm_get dX10_way_36 ce_8_0 rfl inX10 0 (by decide) tb_944 rfl rfl ?_
        refine gm_iload_n dX10_way_39 rfl rfl ?_
        refine gm_iconst (v := 5) dX10_way_40 (by decide) ?_
        refine gm_iadd dX10_way_41 ?_
        refine gm_iload_n dX10_way_42 rfl rfl ?_
        refine gm_iadd dX10_way_43 ?_
        refine gm_iald dX10_way_44 ce_8_1 ?_
        refine gm_goto (tgt := 50) dX10_way_45 (by decide) ?_
        exact gm_iret dX10_way_50
    · refine gm_iconst (v := (-1)) dX10_way_12 (by decide) ?_
      exact gm_iret dX10_way_13
