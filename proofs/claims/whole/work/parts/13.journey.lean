noncomputable def f_X2_stateAt (w : Wd) (x1 : Int32) : Option (Nat × Wd) :=
  (f_J9_floorMod_7cf53 w ((w 7 1 1) + x1) 5).bind fun q1 =>
  if ib q1.1 5 = true then
  some (2 + Int32.toNatClampNeg q1.1, q1.2)
  else none
set_option maxRecDepth 100000 in
set_option maxHeartbeats 4000000 in
theorem t_X2_stateAt {l : Launch} {E : En} (w : Wd) (x1 : Int32) : ∀ q, f_X2_stateAt   w x1 = some q → Mt l E yX2_stateAt cX2_stateAt 2 (some (.object "CallRouter$Network")) (rmk 2) [.ref (E.1 7 1), .int (x1)] w ((eR E 0) q.1) q.2 := by
  refine Mt.of [some (.ref (E.1 7 1)), some (.int (x1))] (plainFor_of_name pn_X2) rfl (Nat.le_of_ble_eq_true rfl) rfl ?_
  unfold f_X2_stateAt
  refine gm_aload_n dX2_stateAt_0 rfl rfl ?_
  refine gm_get dX2_stateAt_1 ce_7_1 rfl inX2 0 (by decide) tb_189 rfl rfl ?_
  refine gm_aload_n dX2_stateAt_4 rfl rfl ?_
  refine gm_get dX2_stateAt_5 ce_7_1 rfl inX2 1 (by decide) tb_190 rfl rfl ?_
  refine gm_iload_n dX2_stateAt_8 rfl rfl ?_
  refine gm_iadd dX2_stateAt_9 ?_
  refine gm_iconst (v := 5) dX2_stateAt_10 (by decide) ?_
  refine gm_callSi (As := [.int ((w 7 1 1) + x1), .int (5)]) dX2_stateAt_11 (t_J9_floorMod_7cf53 w ((w 7 1 1) + x1) 5) cy_J9_floorMod_7cf53 tb_333 rfl rfl (rm_ok (by decide) (by decide)) (Nat.le_of_ble_eq_true rfl) (fun q1 => ?_)
  refine gm_aald dX2_stateAt_14 ce_7_2 rfl ?_
  exact gm_aret dX2_stateAt_15

noncomputable def f_X2_pop (n : Nat) (w : Wd) : Option (Int32 × Wd) :=
  if (w 7 1 2) = 0 then
    some (0, w)
  else
    letw (wup w 7 1 2 ((w 7 1 2) - 1)) fun w1 =>
    (f_X2_stateAt w1 (w1 7 1 2)).bind fun q2 =>
    if q2.1 < 7 then
    (f_X4_copyFrom n q2.1 q2.2).bind fun q4 =>
    some (1, q4.2)
    else none
set_option maxRecDepth 100000 in
set_option maxHeartbeats 4000000 in
theorem t_X2_pop {l : Launch} {E : En} (n : Nat) (hn : n < 7) (w : Wd) : ∀ q, f_X2_pop  n w  = some q → Mt l E yX2_pop cX2_pop 3 (some .boolean) (rmk 4) [.ref (E.1 7 1), .ref (E.1 n 0)] w (eI q.1) q.2 := by
  refine Mt.of [some (.ref (E.1 7 1)), some (.ref (E.1 n 0)), none] (plainFor_of_name pn_X2) rfl (Nat.le_of_ble_eq_true rfl) rfl ?_
  unfold f_X2_pop
  refine gm_aload_n dX2_pop_0 rfl rfl ?_
  refine gm_get dX2_pop_1 ce_7_1 rfl inX2 2 (by decide) tb_191 rfl rfl ?_
  refine gm_if_ne (tgt := 9) dX2_pop_4 (by decide) ?_ ?_
  · refine gm_aload_n dX2_pop_9 rfl rfl ?_
    refine gm_dup dX2_pop_10 rfl ?_
    refine gm_get dX2_pop_11 ce_7_1 rfl inX2 2 (by decide) tb_191 rfl rfl ?_
    refine gm_iconst (v := 1) dX2_pop_14 (by decide) ?_
    refine gm_isub dX2_pop_15 ?_
    refine gm_put dX2_pop_16 ce_7_1 rfl inX2 tyX2 tyX2_ok nmX2 2 (by decide) tb_191 rfl rfl (by decide +kernel) (fun _ => rfl) (fun _ => rfl) (fun w1 => ?_)
    refine gm_aload_n dX2_pop_19 rfl rfl ?_
    refine gm_aload_n dX2_pop_20 rfl rfl ?_
    refine gm_get dX2_pop_21 ce_7_1 rfl inX2 2 (by decide) tb_191 rfl rfl ?_
    refine gm_callVr (As := [.int (w1 7 1 2)]) dX2_pop_24 (t_X2_stateAt w1 (w1 7 1 2)) ce_7_1 rfl cy_X2_stateAt tb_329 rfl rfl (rm_ok (by decide) (by decide)) (Nat.le_of_ble_eq_true rfl) (fun q2 => ?_)
    refine gm_astore_n (lv' := [some (.ref (E.1 7 1)), some (.ref (E.1 n 0)), some (.ref (E.1 (q2.1) 0))]) dX2_pop_27 rfl (by decide) rfl rfl ?_
    refine gm_aload_n dX2_pop_28 rfl rfl ?_
    refine gm_ifnull dX2_pop_29 ?_
    refine gm_aload_n dX2_pop_32 rfl rfl ?_
    refine gm_aload_n dX2_pop_33 rfl rfl ?_
    refine gm_guard (fun hg3 => ?_)
    refine gm_callVv (As := [.ref (E.1 (q2.1) 0)]) dX2_pop_34 (t_X4_copyFrom n q2.1 hn hg3 q2.2) (ce_n_0 (n := n) hn) rfl cy_X4_copyFrom tb_336 rfl rfl (rm_ok (by decide) (by decide)) (Nat.le_of_ble_eq_true rfl) (fun q4 => ?_)
    refine gm_iconst (v := 1) dX2_pop_37 (by decide) ?_
    exact gm_zret dX2_pop_38 rfl
  · refine gm_iconst (v := 0) dX2_pop_7 (by decide) ?_
    exact gm_zret dX2_pop_8 rfl

noncomputable def j_X2_push_30 (n : Nat) (w : Wd) : Option (Unit × Wd) :=
  (f_X2_stateAt w (w 7 1 2)).bind fun q1 =>
  if q1.1 < 7 then
  (f_X4_copyFrom q1.1 n q1.2).bind fun q3 =>
  letw (wup q3.2 7 1 2 (((q3.2) 7 1 2) + 1)) fun w4 =>
  some ((), w4)
  else none
set_option maxRecDepth 100000 in
set_option maxHeartbeats 4000000 in
theorem k_X2_push_30 {l : Launch} {E : En} (n : Nat) (hn : n < 7) (w : Wd) : Gm l E cX2_push 3 RX2 none (rmk (4)) eV (j_X2_push_30 n   w ) w 30 [some (.ref (E.1 7 1)), some (.ref (E.1 n 0)), none] [] := by
  unfold j_X2_push_30
  refine gm_aload_n dX2_push_30 rfl rfl ?_
  refine gm_aload_n dX2_push_31 rfl rfl ?_
  refine gm_get dX2_push_32 ce_7_1 rfl inX2 2 (by decide) tb_191 rfl rfl ?_
  refine gm_callVr (As := [.int (w 7 1 2)]) dX2_push_35 (t_X2_stateAt w (w 7 1 2)) ce_7_1 rfl cy_X2_stateAt tb_329 rfl rfl (rm_ok (by decide) (by decide)) (Nat.le_of_ble_eq_true rfl) (fun q1 => ?_)
  refine gm_astore_n (lv' := [some (.ref (E.1 7 1)), some (.ref (E.1 n 0)), some (.ref (E.1 (q1.1) 0))]) dX2_push_38 rfl (by decide) rfl rfl ?_
  refine gm_aload_n dX2_push_39 rfl rfl ?_
  refine gm_ifnull dX2_push_40 ?_
  refine gm_aload_n dX2_push_43 rfl rfl ?_
  refine gm_aload_n dX2_push_44 rfl rfl ?_
  refine gm_guard (fun hg2 => ?_)
  refine gm_callVv (As := [.ref (E.1 n 0)]) dX2_push_45 (t_X4_copyFrom q1.1 n hg2 hn q1.2) (ce_n_0 (n := q1.1) hg2) rfl cy_X4_copyFrom tb_336 rfl rfl (rm_ok (by decide) (by decide)) (Nat.le_of_ble_eq_true rfl) (fun q3 => ?_)
  refine gm_aload_n dX2_push_48 rfl rfl ?_
  refine gm_dup dX2_push_49 rfl ?_
  refine gm_get dX2_push_50 ce_7_1 rfl inX2 2 (by decide) tb_191 rfl rfl ?_
  refine gm_iconst (v := 1) dX2_push_53 (by decide) ?_
  refine gm_iadd dX2_push_54 ?_
  refine gm_put dX2_push_55 ce_7_1 rfl inX2 tyX2 tyX2_ok nmX2 2 (by decide) tb_191 rfl rfl (by decide +kernel) (fun _ => rfl) (fun _ => rfl) (fun w4 => ?_)
  exact gm_vret dX2_push_58
noncomputable def f_X2_push (n : Nat) (w : Wd) : Option (Unit × Wd) :=
  if (w 7 1 2) = 5 then
    letw (wup w 7 1 1 (((w 7 1 1) + 1) - ((w 7 1 1) + 1) / 5 * 5)) fun w5 =>
    letw (wup w5 7 1 2 ((w5 7 1 2) - 1)) fun w6 =>
    j_X2_push_30 n w6 
  else
    j_X2_push_30 n w 
set_option maxRecDepth 100000 in
set_option maxHeartbeats 4000000 in
theorem t_X2_push {l : Launch} {E : En} (n : Nat) (hn : n < 7) (w : Wd) : ∀ q, f_X2_push  n w  = some q → Mt l E yX2_push cX2_push 3 none (rmk 4) [.ref (E.1 7 1), .ref (E.1 n 0)] w (eV q.1) q.2 := by
  refine Mt.of [some (.ref (E.1 7 1)), some (.ref (E.1 n 0)), none] (plainFor_of_name pn_X2) rfl (Nat.le_of_ble_eq_true rfl) rfl ?_
  unfold f_X2_push
  refine gm_aload_n dX2_push_0 rfl rfl ?_
  refine gm_get dX2_push_1 ce_7_1 rfl inX2 2 (by decide) tb_191 rfl rfl ?_
  refine gm_iconst (v := 5) dX2_push_4 (by decide) ?_
  refine gm_icmp_ne (tgt := 30) dX2_push_5 (by decide) ?_ ?_
  · exact gm_weak (lsub_s (lsub_s (lsub_n lsub_0))) (k_X2_push_30 n hn w )
  · refine gm_aload_n dX2_push_8 rfl rfl ?_
    refine gm_aload_n dX2_push_9 rfl rfl ?_
    refine gm_get dX2_push_10 ce_7_1 rfl inX2 1 (by decide) tb_190 rfl rfl ?_
    refine gm_iconst (v := 1) dX2_push_13 (by decide) ?_
    refine gm_iadd dX2_push_14 ?_
    refine gm_iconst (v := 5) dX2_push_15 (by decide) ?_
    refine gm_irem dX2_push_16 (by decide) ?_
    refine gm_put dX2_push_17 ce_7_1 rfl inX2 tyX2 tyX2_ok nmX2 1 (by decide) tb_190 rfl rfl (by decide +kernel) (fun _ => rfl) (fun _ => rfl) (fun w5 => ?_)
    refine gm_aload_n dX2_push_20 rfl rfl ?_
    refine gm_dup dX2_push_21 rfl ?_
    refine gm_get dX2_push_22 ce_7_1 rfl inX2 2 (by decide) tb_191 rfl rfl ?_
    refine gm_iconst (v := 1) dX2_push_25 (by decide) ?_
    refine gm_isub dX2_push_26 ?_
    refine gm_put dX2_push_27 ce_7_1 rfl inX2 tyX2 tyX2_ok nmX2 2 (by decide) tb_191 rfl rfl (by decide +kernel) (fun _ => rfl) (fun _ => rfl) (fun w6 => ?_)
    exact gm_weak (lsub_s (lsub_s (lsub_n lsub_0))) (k_X2_push_30 n hn w6 )

noncomputable def f_X2_size (w : Wd) : Option (Int32 × Wd) :=
  some (w 7 1 2, w)
set_option maxRecDepth 100000 in
set_option maxHeartbeats 4000000 in
theorem t_X2_size {l : Launch} {E : En} (w : Wd) : ∀ q, f_X2_size   w  = some q → Mt l E yX2_size cX2_size 1 (some .int) (rmk 1) [.ref (E.1 7 1)] w (eI q.1) q.2 := by
  refine Mt.of [some (.ref (E.1 7 1))] (plainFor_of_name pn_X2) rfl (Nat.le_of_ble_eq_true rfl) rfl ?_
  unfold f_X2_size
  refine gm_aload_n dX2_size_0 rfl rfl ?_
  refine gm_get dX2_size_1 ce_7_1 rfl inX2 2 (by decide) tb_191 rfl rfl ?_
  exact gm_iret dX2_size_4
noncomputable def p_X2_size (w : Wd) : Int32 :=
  w 7 1 2
theorem fp_X2_size (w : Wd) : f_X2_size  w  = some (p_X2_size  w , w) := by
  unfold f_X2_size p_X2_size
  (try simp only [leti, letl])
  repeat' (first | rfl | split)
theorem tk_X2_size {l : Launch} {E : En} (w : Wd) : Mt l E yX2_size cX2_size 1 (some .int) (rmk 1) [.ref (E.1 7 1)] w (some (.int (p_X2_size  w ))) w := t_X2_size   w  _ (fp_X2_size  w )

noncomputable def j_X3_tryRoute_112 (n : Nat) (ra : Nat → Wd → Int32 → Int32 → Int32 → Option (Int32 × Wd)) (w : Wd) (y6 : Int32) (y8 : Int32) : Option (Int32 × Wd) :=
  (f_X8_finish w y6 y8).bind fun q6 =>
  some (y8, q6.2)
set_option maxRecDepth 100000 in
set_option maxHeartbeats 4000000 in
theorem k_X3_tryRoute_112 {l : Launch} {E : En} (n : Nat) (hn : n < 7) (ra : Nat → Wd → Int32 → Int32 → Int32 → Option (Int32 × Wd)) (ha : Nat) (hha : 20 ≤ ha) (hra : ∀ (n : Nat) (hn : n < 7) (w : Wd) (x2 : Int32) (x3 : Int32) (x4 : Int32) (q : Int32 × Wd), ra n w x2 x3 x4 = some q → Mt l E yX3_arrive cX3_arrive 7 (some .int) (rmk ha) [.ref (E.1 7 11), .ref (E.1 n 0), .int (x2), .int (x3), .int (x4)] w (eI q.1) q.2) (w : Wd) (y6 : Int32) (y8 : Int32) : Gm l E cX3_tryRoute 9 RX3 (some .int) (rmk (ha + 1)) eI (j_X3_tryRoute_112 n ra  w y6 y8) w 112 [some (.ref (E.1 7 11)), none, none, none, none, none, some (.int (y6)), none, some (.int (y8))] [] := by
  unfold j_X3_tryRoute_112
  refine gm_aload_n dX3_tryRoute_112 rfl rfl ?_
  refine gm_get dX3_tryRoute_113 ce_7_11 rfl inX3 0 (by decide) tb_259 rfl rfl ?_
  refine gm_iload dX3_tryRoute_116 rfl ?_
  refine gm_iload dX3_tryRoute_118 rfl ?_
  refine gm_callVv (As := [.int (y6), .int (y8)]) dX3_tryRoute_120 (t_X8_finish w y6 y8) ce_7_12 rfl cy_X8_finish tb_585 rfl rfl (rm_ok (by omega) (by decide)) (Nat.le_of_ble_eq_true rfl) (fun q6 => ?_)
  refine gm_iload dX3_tryRoute_123 rfl ?_
  exact gm_iret dX3_tryRoute_125
noncomputable def f_X3_tryRoute (ra : Nat → Wd → Int32 → Int32 → Int32 → Option (Int32 × Wd)) (n : Nat) (w : Wd) (x2 : Int32) (x3 : Int32) (x4 : Int32) : Option (Int32 × Wd) :=
  leti (p_J6_bitCount_0f7a4 w x3) fun u1 =>
  if u1 < 6 then
    (f_X8_begin w x2).bind fun q2 =>
    if q2.1 = (-9) then
      some (6, q2.2)
    else
      if ib u1 6 = true then
      letw (wup q2.2 7 15 (Int32.toNatClampNeg u1) x2) fun w3 =>
      (f_X6_serves n w3 x2).bind fun q4 =>
      if q4.1 = 0 then
        (f_X6_hasFreeLine n q4.2 x2).bind fun q5 =>
        if q5.1 = 0 then
          j_X3_tryRoute_112 n ra q5.2 q2.1 2
        else
          (f_X6_nextOf n q5.2 x2).bind fun q7 =>
          (f_X6_switchOf n q7.2 x2).bind fun q8 =>
          (ra n q8.2 q7.1 (x3 ||| (1 <<< (q8.1 &&& 31))) x4).bind fun q9 =>
          j_X3_tryRoute_112 n ra q9.2 q2.1 q9.1
      else
        letw (wup q4.2 7 11 2 (u1 + 1)) fun w10 =>
        leti (w10 7 11 5) fun u11 =>
        j_X3_tryRoute_112 n ra w10 q2.1 u11
      else none
  else
    some (4, w)
set_option maxRecDepth 100000 in
set_option maxHeartbeats 4000000 in
theorem t_X3_tryRoute {l : Launch} {E : En} (ra : Nat → Wd → Int32 → Int32 → Int32 → Option (Int32 × Wd)) (ha : Nat) (hha : 20 ≤ ha) (hra : ∀ (n : Nat) (hn : n < 7) (w : Wd) (x2 : Int32) (x3 : Int32) (x4 : Int32) (q : Int32 × Wd), ra n w x2 x3 x4 = some q → Mt l E yX3_arrive cX3_arrive 7 (some .int) (rmk ha) [.ref (E.1 7 11), .ref (E.1 n 0), .int (x2), .int (x3), .int (x4)] w (eI q.1) q.2) (n : Nat) (hn : n < 7) (w : Wd) (x2 : Int32) (x3 : Int32) (x4 : Int32) : ∀ q, f_X3_tryRoute ra n w x2 x3 x4 = some q → Mt l E yX3_tryRoute cX3_tryRoute 9 (some .int) (rmk (ha + 1)) [.ref (E.1 7 11), .ref (E.1 n 0), .int (x2), .int (x3), .int (x4)] w (eI q.1) q.2 := by
  refine Mt.of [some (.ref (E.1 7 11)), some (.ref (E.1 n 0)), some (.int (x2)), some (.int (x3)), some (.int (x4)), none, none, none, none] (plainFor_of_name pn_X3) rfl (Nat.le_of_ble_eq_true rfl) rfl ?_
  unfold f_X3_tryRoute
  refine gm_iload_n dX3_tryRoute_0 rfl rfl ?_
  refine gm_callSk (As := [.int (x3)]) dX3_tryRoute_1 (tk_J6_bitCount_0f7a4 w x3) cy_J6_bitCount_0f7a4 tb_513 rfl rfl (rm_ok (by omega) (by decide)) (Nat.le_of_ble_eq_true rfl) ?_
  refine gm_leti_st (fun u1 => ?_)
  refine gm_istore (lv' := [some (.ref (E.1 7 11)), some (.ref (E.1 n 0)), some (.int (x2)), some (.int (x3)), some (.int (x4)), some (.int (u1)), none, none, none]) dX3_tryRoute_4 (by decide) rfl rfl ?_
  refine gm_iload dX3_tryRoute_6 rfl ?_
  refine gm_bipush (v := 6) dX3_tryRoute_8 (by decide) ?_
  refine gm_icmp_lt (tgt := 15) dX3_tryRoute_10 (by decide) ?_ ?_
  · refine gm_aload_n dX3_tryRoute_15 rfl rfl ?_
    refine gm_get dX3_tryRoute_16 ce_7_11 rfl inX3 0 (by decide) tb_259 rfl rfl ?_
    refine gm_iload_n dX3_tryRoute_19 rfl rfl ?_
    refine gm_callVi (As := [.int (x2)]) dX3_tryRoute_20 (t_X8_begin w x2) ce_7_12 rfl cy_X8_begin tb_565 rfl rfl (rm_ok (by omega) (by decide)) (Nat.le_of_ble_eq_true rfl) (fun q2 => ?_)
    refine gm_istore (lv' := [some (.ref (E.1 7 11)), some (.ref (E.1 n 0)), some (.int (x2)), some (.int (x3)), some (.int (x4)), some (.int (u1)), some (.int (q2.1)), none, none]) dX3_tryRoute_23 (by decide) rfl rfl ?_
    refine gm_iload dX3_tryRoute_25 rfl ?_
    refine gm_bipush (v := (-9)) dX3_tryRoute_27 (by decide) ?_
    refine gm_icmp_ne (tgt := 35) dX3_tryRoute_29 (by decide) ?_ ?_
    · refine gm_aload_n dX3_tryRoute_35 rfl rfl ?_
      refine gm_callVk (As := []) dX3_tryRoute_36 (tk_X4_routeRows n hn q2.2) (ce_n_0 (n := n) hn) rfl cy_X4_routeRows tb_532 rfl rfl (rm_ok (by omega) (by decide)) (Nat.le_of_ble_eq_true rfl) ?_
      refine gm_astore (lv' := [some (.ref (E.1 7 11)), some (.ref (E.1 n 0)), some (.int (x2)), some (.int (x3)), some (.int (x4)), some (.int (u1)), some (.int (q2.1)), some (.ref (E.1 n 3)), none]) dX3_tryRoute_39 (by decide) rfl rfl ?_
      refine gm_iconst (v := 2) dX3_tryRoute_41 (by decide) ?_
      refine gm_istore (lv' := [some (.ref (E.1 7 11)), some (.ref (E.1 n 0)), some (.int (x2)), some (.int (x3)), some (.int (x4)), some (.int (u1)), some (.int (q2.1)), some (.ref (E.1 n 3)), some (.int (2))]) dX3_tryRoute_42 (by decide) rfl rfl ?_
      refine gm_aload_n dX3_tryRoute_44 rfl rfl ?_
      refine gm_get dX3_tryRoute_45 ce_7_11 rfl inX3 1 (by decide) tb_260 rfl rfl ?_
      refine gm_iload dX3_tryRoute_48 rfl ?_
      refine gm_iload_n dX3_tryRoute_50 rfl rfl ?_
      refine gm_iast dX3_tryRoute_51 ce_7_15 (fun w3 => ?_)
      refine gm_aload dX3_tryRoute_52 rfl ?_
      refine gm_iload_n dX3_tryRoute_54 rfl rfl ?_
      refine gm_callVi (As := [.int (x2)]) dX3_tryRoute_55 (t_X6_serves n hn w3 x2) (ce_n_3 (n := n) hn) rfl cy_X6_serves tb_569 rfl rfl (rm_ok (by omega) (by decide)) (Nat.le_of_ble_eq_true rfl) (fun q4 => ?_)
      refine gm_if_eq (tgt := 78) dX3_tryRoute_58 (by decide) ?_ ?_
      · refine gm_aload dX3_tryRoute_78 rfl ?_
        refine gm_iload_n dX3_tryRoute_80 rfl rfl ?_
        refine gm_callVi (As := [.int (x2)]) dX3_tryRoute_81 (t_X6_hasFreeLine n hn q4.2 x2) (ce_n_3 (n := n) hn) rfl cy_X6_hasFreeLine tb_573 rfl rfl (rm_ok (by omega) (by decide)) (Nat.le_of_ble_eq_true rfl) (fun q5 => ?_)
        refine gm_if_eq (tgt := 112) dX3_tryRoute_84 (by decide) ?_ ?_
        · exact gm_weak (lsub_s (lsub_n (lsub_n (lsub_n (lsub_n (lsub_n (lsub_s (lsub_n (lsub_s lsub_0))))))))) (k_X3_tryRoute_112 n hn ra ha hha hra q5.2 q2.1 2)
        · refine gm_aload_n dX3_tryRoute_87 rfl rfl ?_
          refine gm_aload_n dX3_tryRoute_88 rfl rfl ?_
          refine gm_aload dX3_tryRoute_89 rfl ?_
          refine gm_iload_n dX3_tryRoute_91 rfl rfl ?_
          refine gm_callVi (As := [.int (x2)]) dX3_tryRoute_92 (t_X6_nextOf n hn q5.2 x2) (ce_n_3 (n := n) hn) rfl cy_X6_nextOf tb_577 rfl rfl (rm_ok (by omega) (by decide)) (Nat.le_of_ble_eq_true rfl) (fun q7 => ?_)
          refine gm_iload_n dX3_tryRoute_95 rfl rfl ?_
          refine gm_iconst (v := 1) dX3_tryRoute_96 (by decide) ?_
          refine gm_aload dX3_tryRoute_97 rfl ?_
          refine gm_iload_n dX3_tryRoute_99 rfl rfl ?_
          refine gm_callVi (As := [.int (x2)]) dX3_tryRoute_100 (t_X6_switchOf n hn q7.2 x2) (ce_n_3 (n := n) hn) rfl cy_X6_switchOf tb_581 rfl rfl (rm_ok (by omega) (by decide)) (Nat.le_of_ble_eq_true rfl) (fun q8 => ?_)
          refine gm_ishl dX3_tryRoute_103 ?_
          refine gm_ior dX3_tryRoute_104 ?_
          refine gm_iload dX3_tryRoute_105 rfl ?_
          refine gm_callVi (As := [.ref (E.1 n 0), .int (q7.1), .int (x3 ||| (1 <<< (q8.1 &&& 31))), .int (x4)]) dX3_tryRoute_107 (hra n hn q8.2 q7.1 (x3 ||| (1 <<< (q8.1 &&& 31))) x4) ce_7_11 rfl cy_X3_arrive tb_509 rfl rfl (rm_ok (by omega) (by decide)) (Nat.le_of_ble_eq_true rfl) (fun q9 => ?_)
          refine gm_istore (lv' := [some (.ref (E.1 7 11)), some (.ref (E.1 n 0)), some (.int (x2)), some (.int (x3)), some (.int (x4)), some (.int (u1)), some (.int (q2.1)), some (.ref (E.1 n 3)), some (.int (q9.1))]) dX3_tryRoute_110 (by decide) rfl rfl ?_
          exact gm_weak (lsub_s (lsub_n (lsub_n (lsub_n (lsub_n (lsub_n (lsub_s (lsub_n (lsub_s lsub_0))))))))) (k_X3_tryRoute_112 n hn ra ha hha hra q9.2 q2.1 q9.1)
      · refine gm_aload_n dX3_tryRoute_61 rfl rfl ?_
        refine gm_iload dX3_tryRoute_62 rfl ?_
        refine gm_iconst (v := 1) dX3_tryRoute_64 (by decide) ?_
        refine gm_iadd dX3_tryRoute_65 ?_
        refine gm_put dX3_tryRoute_66 ce_7_11 rfl inX3 tyX3 tyX3_ok nmX3 2 (by decide) tb_261 rfl rfl (by decide +kernel) (fun _ => rfl) (fun _ => rfl) (fun w10 => ?_)
        refine gm_aload_n dX3_tryRoute_69 rfl rfl ?_
        refine gm_get dX3_tryRoute_70 ce_7_11 rfl inX3 5 (by decide) tb_264 rfl rfl ?_
        refine gm_leti_st (fun u11 => ?_)
        refine gm_istore (lv' := [some (.ref (E.1 7 11)), some (.ref (E.1 n 0)), some (.int (x2)), some (.int (x3)), some (.int (x4)), some (.int (u1)), some (.int (q2.1)), some (.ref (E.1 n 3)), some (.int (u11))]) dX3_tryRoute_73 (by decide) rfl rfl ?_
        refine gm_goto (tgt := 112) dX3_tryRoute_75 (by decide) ?_
        exact gm_weak (lsub_s (lsub_n (lsub_n (lsub_n (lsub_n (lsub_n (lsub_s (lsub_n (lsub_s lsub_0))))))))) (k_X3_tryRoute_112 n hn ra ha hha hra w10 q2.1 u11)
    · refine gm_bipush (v := 6) dX3_tryRoute_32 (by decide) ?_
      exact gm_iret dX3_tryRoute_34
  · refine gm_iconst (v := 4) dX3_tryRoute_13 (by decide) ?_
    exact gm_iret dX3_tryRoute_14

noncomputable def b_X3_tryRoutes_45 (n : Nat) (ra : Nat → Wd → Int32 → Int32 → Int32 → Option (Int32 × Wd)) (rc45 : Wd → Int32 → Int32 → Int32 → Int32 → Int32 → Int32 → Int32 → Option (Int32 × Wd)) (w : Wd) (y2 : Int32) (y3 : Int32) (y4 : Int32) (y6 : Int32) (y7 : Int32) (y8 : Int32) (y9 : Int32) : Option (Int32 × Wd) :=
  if 40 ≤ y9 then
    some (y8, w)
  else
    if y7 = (-9) then
      some (y8, w)
    else
      (f_X3_tryRoute ra n w y7 y3 y4).bind fun q4 =>
      (f_X4_goesOn n q4.2 y2 q4.1).bind fun q5 =>
      if q5.1 = 0 then
        some (q4.1, q5.2)
      else
        (f_X6_choiceAfter n q5.2 y7 y2 y6 ((q5.2) 7 11 4)).bind fun q6 =>
        rc45 q6.2 y2 y3 y4 y6 q6.1 q4.1 (y9 + 1)
set_option maxRecDepth 100000 in
set_option maxHeartbeats 4000000 in
theorem kb_X3_tryRoutes_45 {l : Launch} {E : En} (n : Nat) (hn : n < 7) (ra : Nat → Wd → Int32 → Int32 → Int32 → Option (Int32 × Wd)) (ha : Nat) (hha : 20 ≤ ha) (hra : ∀ (n : Nat) (hn : n < 7) (w : Wd) (x2 : Int32) (x3 : Int32) (x4 : Int32) (q : Int32 × Wd), ra n w x2 x3 x4 = some q → Mt l E yX3_arrive cX3_arrive 7 (some .int) (rmk ha) [.ref (E.1 7 11), .ref (E.1 n 0), .int (x2), .int (x3), .int (x4)] w (eI q.1) q.2) (rc45 : Wd → Int32 → Int32 → Int32 → Int32 → Int32 → Int32 → Int32 → Option (Int32 × Wd)) (hrc45 : ∀ (w : Wd) (y2 : Int32) (y3 : Int32) (y4 : Int32) (y6 : Int32) (y7 : Int32) (y8 : Int32) (y9 : Int32), Gm l E cX3_tryRoutes 10 RX3 (some .int) (rmk (ha + 2)) eI (rc45 w y2 y3 y4 y6 y7 y8 y9) w 45 [some (.ref (E.1 7 11)), some (.ref (E.1 n 0)), some (.int (y2)), some (.int (y3)), some (.int (y4)), some (.ref (E.1 n 3)), some (.int (y6)), some (.int (y7)), some (.int (y8)), some (.int (y9))] []) (w : Wd) (y2 : Int32) (y3 : Int32) (y4 : Int32) (y6 : Int32) (y7 : Int32) (y8 : Int32) (y9 : Int32) : Gm l E cX3_tryRoutes 10 RX3 (some .int) (rmk (ha + 2)) eI (b_X3_tryRoutes_45 n ra rc45 w y2 y3 y4 y6 y7 y8 y9) w 45 [some (.ref (E.1 7 11)), some (.ref (E.1 n 0)), some (.int (y2)), some (.int (y3)), some (.int (y4)), some (.ref (E.1 n 3)), some (.int (y6)), some (.int (y7)), some (.int (y8)), some (.int (y9))] [] := by
  unfold b_X3_tryRoutes_45
  refine gm_iload dX3_tryRoutes_45 rfl ?_
  refine gm_bipush (v := 40) dX3_tryRoutes_47 (by decide) ?_
  refine gm_icmp_ge (tgt := 106) dX3_tryRoutes_49 (by decide) ?_ ?_
  · refine gm_iload dX3_tryRoutes_106 rfl ?_
    exact gm_iret dX3_tryRoutes_108
  · refine gm_iload dX3_tryRoutes_52 rfl ?_
    refine gm_bipush (v := (-9)) dX3_tryRoutes_54 (by decide) ?_
    refine gm_icmp_eq (tgt := 106) dX3_tryRoutes_56 (by decide) ?_ ?_
    · refine gm_iload dX3_tryRoutes_106 rfl ?_
      exact gm_iret dX3_tryRoutes_108
    · refine gm_aload_n dX3_tryRoutes_59 rfl rfl ?_
      refine gm_aload_n dX3_tryRoutes_60 rfl rfl ?_
      refine gm_iload dX3_tryRoutes_61 rfl ?_
      refine gm_iload_n dX3_tryRoutes_63 rfl rfl ?_
      refine gm_iload dX3_tryRoutes_64 rfl ?_
      refine gm_callVi (As := [.ref (E.1 n 0), .int (y7), .int (y3), .int (y4)]) dX3_tryRoutes_66 (t_X3_tryRoute ra ha hha hra n hn w y7 y3 y4) ce_7_11 rfl cy_X3_tryRoute tb_561 rfl rfl (rm_ok (by omega) (by decide)) (Nat.le_of_ble_eq_true rfl) (fun q4 => ?_)
      refine gm_istore (lv' := [some (.ref (E.1 7 11)), some (.ref (E.1 n 0)), some (.int (y2)), some (.int (y3)), some (.int (y4)), some (.ref (E.1 n 3)), some (.int (y6)), some (.int (y7)), some (.int (q4.1)), some (.int (y9))]) dX3_tryRoutes_69 (by decide) rfl rfl ?_
      refine gm_aload_n dX3_tryRoutes_71 rfl rfl ?_
      refine gm_iload_n dX3_tryRoutes_72 rfl rfl ?_
      refine gm_iload dX3_tryRoutes_73 rfl ?_
      refine gm_callVi (As := [.int (y2), .int (q4.1)]) dX3_tryRoutes_75 (t_X4_goesOn n hn q4.2 y2 q4.1) (ce_n_0 (n := n) hn) rfl cy_X4_goesOn tb_593 rfl rfl (rm_ok (by omega) (by decide)) (Nat.le_of_ble_eq_true rfl) (fun q5 => ?_)
      refine gm_if_ne (tgt := 84) dX3_tryRoutes_78 (by decide) ?_ ?_
      · refine gm_aload dX3_tryRoutes_84 rfl ?_
        refine gm_iload dX3_tryRoutes_86 rfl ?_
        refine gm_iload_n dX3_tryRoutes_88 rfl rfl ?_
        refine gm_iload dX3_tryRoutes_89 rfl ?_
        refine gm_aload_n dX3_tryRoutes_91 rfl rfl ?_
        refine gm_get dX3_tryRoutes_92 ce_7_11 rfl inX3 4 (by decide) tb_263 rfl rfl ?_
        refine gm_callVi (As := [.int (y7), .int (y2), .int (y6), .int ((q5.2) 7 11 4)]) dX3_tryRoutes_95 (t_X6_choiceAfter n hn q5.2 y7 y2 y6 ((q5.2) 7 11 4)) (ce_n_3 (n := n) hn) rfl cy_X6_choiceAfter tb_545 rfl rfl (rm_ok (by omega) (by decide)) (Nat.le_of_ble_eq_true rfl) (fun q6 => ?_)
        refine gm_istore (lv' := [some (.ref (E.1 7 11)), some (.ref (E.1 n 0)), some (.int (y2)), some (.int (y3)), some (.int (y4)), some (.ref (E.1 n 3)), some (.int (y6)), some (.int (q6.1)), some (.int (q4.1)), some (.int (y9))]) dX3_tryRoutes_98 (by decide) rfl rfl ?_
        refine gm_iinc (v := 1) (lv' := [some (.ref (E.1 7 11)), some (.ref (E.1 n 0)), some (.int (y2)), some (.int (y3)), some (.int (y4)), some (.ref (E.1 n 3)), some (.int (y6)), some (.int (q6.1)), some (.int (q4.1)), some (.int (y9 + 1))]) dX3_tryRoutes_100 rfl (by decide) (by decide) rfl rfl ?_
        refine gm_goto (tgt := 45) dX3_tryRoutes_103 (by decide) ?_
        exact gm_weak (lsub_s (lsub_s (lsub_s (lsub_s (lsub_s (lsub_s (lsub_s (lsub_s (lsub_s (lsub_s lsub_0)))))))))) (hrc45 q6.2 y2 y3 y4 y6 q6.1 q4.1 (y9 + 1))
      · refine gm_iload dX3_tryRoutes_81 rfl ?_
        exact gm_iret dX3_tryRoutes_83
noncomputable def h_X3_tryRoutes_45 (n : Nat) (ra : Nat → Wd → Int32 → Int32 → Int32 → Option (Int32 × Wd)) : Nat → (Wd → Int32 → Int32 → Int32 → Int32 → Int32 → Int32 → Int32 → Option (Int32 × Wd))
  | 0 => fun _ _ _ _ _ _ _ _ => none
  | fu + 1 => b_X3_tryRoutes_45 n ra  (h_X3_tryRoutes_45 n ra  fu)
set_option maxRecDepth 100000 in
set_option maxHeartbeats 4000000 in
theorem k_X3_tryRoutes_45 {l : Launch} {E : En} (n : Nat) (hn : n < 7) (ra : Nat → Wd → Int32 → Int32 → Int32 → Option (Int32 × Wd)) (ha : Nat) (hha : 20 ≤ ha) (hra : ∀ (n : Nat) (hn : n < 7) (w : Wd) (x2 : Int32) (x3 : Int32) (x4 : Int32) (q : Int32 × Wd), ra n w x2 x3 x4 = some q → Mt l E yX3_arrive cX3_arrive 7 (some .int) (rmk ha) [.ref (E.1 7 11), .ref (E.1 n 0), .int (x2), .int (x3), .int (x4)] w (eI q.1) q.2) : ∀ (fu : Nat) (w : Wd) (y2 : Int32) (y3 : Int32) (y4 : Int32) (y6 : Int32) (y7 : Int32) (y8 : Int32) (y9 : Int32), Gm l E cX3_tryRoutes 10 RX3 (some .int) (rmk (ha + 2)) eI (h_X3_tryRoutes_45 n ra  fu w y2 y3 y4 y6 y7 y8 y9) w 45 [some (.ref (E.1 7 11)), some (.ref (E.1 n 0)), some (.int (y2)), some (.int (y3)), some (.int (y4)), some (.ref (E.1 n 3)), some (.int (y6)), some (.int (y7)), some (.int (y8)), some (.int (y9))] []
  | 0, _, _, _, _, _, _, _, _ => gm_none
  | fu + 1, w, y2, y3, y4, y6, y7, y8, y9 => kb_X3_tryRoutes_45 n hn ra ha hha hra  (h_X3_tryRoutes_45 n ra  fu)  (fun w y2 y3 y4 y6 y7 y8 y9 => k_X3_tryRoutes_45 n hn ra ha hha hra   fu w y2 y3 y4 y6 y7 y8 y9) w y2 y3 y4 y6 y7 y8 y9
noncomputable def f_X3_tryRoutes (ra : Nat → Wd → Int32 → Int32 → Int32 → Option (Int32 × Wd)) (n : Nat) (w : Wd) (x2 : Int32) (x3 : Int32) (x4 : Int32) : Option (Int32 × Wd) :=
  (f_X9_digitsOf w (w 7 11 3) x4).bind fun q1 =>
  (f_X6_longestPrefix n q1.2 x2 q1.1).bind fun q2 =>
  (f_X6_choiceAfter n q2.2 (-9) x2 q2.1 ((q2.2) 7 11 4)).bind fun q3 =>
  h_X3_tryRoutes_45 n ra FU q3.2 x2 x3 x4 q2.1 q3.1 1 0
set_option maxRecDepth 100000 in
set_option maxHeartbeats 4000000 in
theorem t_X3_tryRoutes {l : Launch} {E : En} (ra : Nat → Wd → Int32 → Int32 → Int32 → Option (Int32 × Wd)) (ha : Nat) (hha : 20 ≤ ha) (hra : ∀ (n : Nat) (hn : n < 7) (w : Wd) (x2 : Int32) (x3 : Int32) (x4 : Int32) (q : Int32 × Wd), ra n w x2 x3 x4 = some q → Mt l E yX3_arrive cX3_arrive 7 (some .int) (rmk ha) [.ref (E.1 7 11), .ref (E.1 n 0), .int (x2), .int (x3), .int (x4)] w (eI q.1) q.2) (n : Nat) (hn : n < 7) (w : Wd) (x2 : Int32) (x3 : Int32) (x4 : Int32) : ∀ q, f_X3_tryRoutes ra n w x2 x3 x4 = some q → Mt l E yX3_tryRoutes cX3_tryRoutes 10 (some .int) (rmk (ha + 2)) [.ref (E.1 7 11), .ref (E.1 n 0), .int (x2), .int (x3), .int (x4)] w (eI q.1) q.2 := by
  refine Mt.of [some (.ref (E.1 7 11)), some (.ref (E.1 n 0)), some (.int (x2)), some (.int (x3)), some (.int (x4)), none, none, none, none, none] (plainFor_of_name pn_X3) rfl (Nat.le_of_ble_eq_true rfl) rfl ?_
  unfold f_X3_tryRoutes
  refine gm_aload_n dX3_tryRoutes_0 rfl rfl ?_
  refine gm_callVk (As := []) dX3_tryRoutes_1 (tk_X4_routeRows n hn w) (ce_n_0 (n := n) hn) rfl cy_X4_routeRows tb_532 rfl rfl (rm_ok (by omega) (by decide)) (Nat.le_of_ble_eq_true rfl) ?_
  refine gm_astore (lv' := [some (.ref (E.1 7 11)), some (.ref (E.1 n 0)), some (.int (x2)), some (.int (x3)), some (.int (x4)), some (.ref (E.1 n 3)), none, none, none, none]) dX3_tryRoutes_4 (by decide) rfl rfl ?_
  refine gm_aload dX3_tryRoutes_6 rfl ?_
  refine gm_iload_n dX3_tryRoutes_8 rfl rfl ?_
  refine gm_aload_n dX3_tryRoutes_9 rfl rfl ?_
  refine gm_get dX3_tryRoutes_10 ce_7_11 rfl inX3 3 (by decide) tb_262 rfl rfl ?_
  refine gm_iload dX3_tryRoutes_13 rfl ?_
  refine gm_callNl (As := [.int (w 7 11 3), .int (x4)]) dX3_tryRoutes_15 (t_X9_digitsOf w (w 7 11 3) x4) cy_X9_digitsOf tb_533 rfl rfl (rm_ok (by omega) (by decide)) (Nat.le_of_ble_eq_true rfl) (fun q1 => ?_)
  refine gm_callVi (As := [.int (x2), .long (q1.1)]) dX3_tryRoutes_18 (t_X6_longestPrefix n hn q1.2 x2 q1.1) (ce_n_3 (n := n) hn) rfl cy_X6_longestPrefix tb_538 rfl rfl (rm_ok (by omega) (by decide)) (Nat.le_of_ble_eq_true rfl) (fun q2 => ?_)
  refine gm_istore (lv' := [some (.ref (E.1 7 11)), some (.ref (E.1 n 0)), some (.int (x2)), some (.int (x3)), some (.int (x4)), some (.ref (E.1 n 3)), some (.int (q2.1)), none, none, none]) dX3_tryRoutes_21 (by decide) rfl rfl ?_
  refine gm_aload dX3_tryRoutes_23 rfl ?_
  refine gm_bipush (v := (-9)) dX3_tryRoutes_25 (by decide) ?_
  refine gm_iload_n dX3_tryRoutes_27 rfl rfl ?_
  refine gm_iload dX3_tryRoutes_28 rfl ?_
  refine gm_aload_n dX3_tryRoutes_30 rfl rfl ?_
  refine gm_get dX3_tryRoutes_31 ce_7_11 rfl inX3 4 (by decide) tb_263 rfl rfl ?_
  refine gm_callVi (As := [.int ((-9)), .int (x2), .int (q2.1), .int ((q2.2) 7 11 4)]) dX3_tryRoutes_34 (t_X6_choiceAfter n hn q2.2 (-9) x2 q2.1 ((q2.2) 7 11 4)) (ce_n_3 (n := n) hn) rfl cy_X6_choiceAfter tb_545 rfl rfl (rm_ok (by omega) (by decide)) (Nat.le_of_ble_eq_true rfl) (fun q3 => ?_)
  refine gm_istore (lv' := [some (.ref (E.1 7 11)), some (.ref (E.1 n 0)), some (.int (x2)), some (.int (x3)), some (.int (x4)), some (.ref (E.1 n 3)), some (.int (q2.1)), some (.int (q3.1)), none, none]) dX3_tryRoutes_37 (by decide) rfl rfl ?_
  refine gm_iconst (v := 1) dX3_tryRoutes_39 (by decide) ?_
  refine gm_istore (lv' := [some (.ref (E.1 7 11)), some (.ref (E.1 n 0)), some (.int (x2)), some (.int (x3)), some (.int (x4)), some (.ref (E.1 n 3)), some (.int (q2.1)), some (.int (q3.1)), some (.int (1)), none]) dX3_tryRoutes_40 (by decide) rfl rfl ?_
  refine gm_iconst (v := 0) dX3_tryRoutes_42 (by decide) ?_
  refine gm_istore (lv' := [some (.ref (E.1 7 11)), some (.ref (E.1 n 0)), some (.int (x2)), some (.int (x3)), some (.int (x4)), some (.ref (E.1 n 3)), some (.int (q2.1)), some (.int (q3.1)), some (.int (1)), some (.int (0))]) dX3_tryRoutes_43 (by decide) rfl rfl ?_
  exact gm_weak (lsub_s (lsub_s (lsub_s (lsub_s (lsub_s (lsub_s (lsub_s (lsub_s (lsub_s (lsub_s lsub_0)))))))))) (k_X3_tryRoutes_45 n hn ra ha hha hra FU q3.2 x2 x3 x4 q2.1 q3.1 1 0)

noncomputable def b_X3_arrive (ra : Nat → Wd → Int32 → Int32 → Int32 → Option (Int32 × Wd)) (n : Nat) (w : Wd) (x2 : Int32) (x3 : Int32) (x4 : Int32) : Option (Int32 × Wd) :=
  leti (p_J6_bitCount_0f7a4 w x3) fun u1 =>
  if ((x3 >>> (x2 &&& 31)) &&& 1) = 0 then
    if (p_X4_hopLimit n w) ≤ u1 then
      some (4, w)
    else
      if u1 < 6 then
        (f_X4_markAt n w x2 (w 7 11 3) x4).bind fun q2 =>
        if q2.1 = x2 then
          letw (wup q2.2 7 11 2 u1) fun w4 =>
          some (w4 7 11 5, w4)
        else
          (f_X3_tryRoutes ra n q2.2 x2 x3 q2.1).bind fun q3 =>
          some (q3.1, q3.2)
      else
        some (4, w)
  else
    some (3, w)
set_option maxRecDepth 100000 in
set_option maxHeartbeats 4000000 in
theorem tb_X3_arrive {l : Launch} {E : En} (ra : Nat → Wd → Int32 → Int32 → Int32 → Option (Int32 × Wd)) (ha : Nat) (hha : 20 ≤ ha) (hra : ∀ (n : Nat) (hn : n < 7) (w : Wd) (x2 : Int32) (x3 : Int32) (x4 : Int32) (q : Int32 × Wd), ra n w x2 x3 x4 = some q → Mt l E yX3_arrive cX3_arrive 7 (some .int) (rmk ha) [.ref (E.1 7 11), .ref (E.1 n 0), .int (x2), .int (x3), .int (x4)] w (eI q.1) q.2) (n : Nat) (hn : n < 7) (w : Wd) (x2 : Int32) (x3 : Int32) (x4 : Int32) : ∀ q, b_X3_arrive ra n w x2 x3 x4 = some q → Mt l E yX3_arrive cX3_arrive 7 (some .int) (rmk (ha + 3)) [.ref (E.1 7 11), .ref (E.1 n 0), .int (x2), .int (x3), .int (x4)] w (eI q.1) q.2 := by
  refine Mt.of [some (.ref (E.1 7 11)), some (.ref (E.1 n 0)), some (.int (x2)), some (.int (x3)), some (.int (x4)), none, none] (plainFor_of_name pn_X3) rfl (Nat.le_of_ble_eq_true rfl) rfl ?_
  unfold b_X3_arrive
  refine gm_iload_n dX3_arrive_0 rfl rfl ?_
  refine gm_callSk (As := [.int (x3)]) dX3_arrive_1 (tk_J6_bitCount_0f7a4 w x3) cy_J6_bitCount_0f7a4 tb_513 rfl rfl (rm_ok (by omega) (by decide)) (Nat.le_of_ble_eq_true rfl) ?_
  refine gm_leti_st (fun u1 => ?_)
  refine gm_istore (lv' := [some (.ref (E.1 7 11)), some (.ref (E.1 n 0)), some (.int (x2)), some (.int (x3)), some (.int (x4)), some (.int (u1)), none]) dX3_arrive_4 (by decide) rfl rfl ?_
  refine gm_iload_n dX3_arrive_6 rfl rfl ?_
  refine gm_iload_n dX3_arrive_7 rfl rfl ?_
  refine gm_ishr dX3_arrive_8 ?_
  refine gm_iconst (v := 1) dX3_arrive_9 (by decide) ?_
  refine gm_iand dX3_arrive_10 ?_
  refine gm_if_eq (tgt := 16) dX3_arrive_11 (by decide) ?_ ?_
  · refine gm_iload dX3_arrive_16 rfl ?_
    refine gm_aload_n dX3_arrive_18 rfl rfl ?_
    refine gm_callVk (As := []) dX3_arrive_19 (tk_X4_hopLimit n hn w) (ce_n_0 (n := n) hn) rfl cy_X4_hopLimit tb_519 rfl rfl (rm_ok (by omega) (by decide)) (Nat.le_of_ble_eq_true rfl) ?_
    refine gm_icmp_ge (tgt := 32) dX3_arrive_22 (by decide) ?_ ?_
    · refine gm_iconst (v := 4) dX3_arrive_32 (by decide) ?_
      exact gm_iret dX3_arrive_33
    · refine gm_iload dX3_arrive_25 rfl ?_
      refine gm_bipush (v := 6) dX3_arrive_27 (by decide) ?_
      refine gm_icmp_lt (tgt := 34) dX3_arrive_29 (by decide) ?_ ?_
      · refine gm_aload_n dX3_arrive_34 rfl rfl ?_
        refine gm_iload_n dX3_arrive_35 rfl rfl ?_
        refine gm_aload_n dX3_arrive_36 rfl rfl ?_
        refine gm_get dX3_arrive_37 ce_7_11 rfl inX3 3 (by decide) tb_262 rfl rfl ?_
        refine gm_iload dX3_arrive_40 rfl ?_
        refine gm_callVi (As := [.int (x2), .int (w 7 11 3), .int (x4)]) dX3_arrive_42 (t_X4_markAt n hn w x2 (w 7 11 3) x4) (ce_n_0 (n := n) hn) rfl cy_X4_markAt tb_523 rfl rfl (rm_ok (by omega) (by decide)) (Nat.le_of_ble_eq_true rfl) (fun q2 => ?_)
        refine gm_istore (lv' := [some (.ref (E.1 7 11)), some (.ref (E.1 n 0)), some (.int (x2)), some (.int (x3)), some (.int (x4)), some (.int (u1)), some (.int (q2.1))]) dX3_arrive_45 (by decide) rfl rfl ?_
        refine gm_iload dX3_arrive_47 rfl ?_
        refine gm_iload_n dX3_arrive_49 rfl rfl ?_
        refine gm_icmp_ne (tgt := 64) dX3_arrive_50 (by decide) ?_ ?_
        · refine gm_aload_n dX3_arrive_64 rfl rfl ?_
          refine gm_aload_n dX3_arrive_65 rfl rfl ?_
          refine gm_iload_n dX3_arrive_66 rfl rfl ?_
          refine gm_iload_n dX3_arrive_67 rfl rfl ?_
          refine gm_iload dX3_arrive_68 rfl ?_
          refine gm_callVi (As := [.ref (E.1 n 0), .int (x2), .int (x3), .int (q2.1)]) dX3_arrive_70 (t_X3_tryRoutes ra ha hha hra n hn q2.2 x2 x3 q2.1) ce_7_11 rfl cy_X3_tryRoutes tb_528 rfl rfl (rm_ok (by omega) (by decide)) (Nat.le_of_ble_eq_true rfl) (fun q3 => ?_)
          exact gm_iret dX3_arrive_73
        · refine gm_aload_n dX3_arrive_53 rfl rfl ?_
          refine gm_iload dX3_arrive_54 rfl ?_
          refine gm_put dX3_arrive_56 ce_7_11 rfl inX3 tyX3 tyX3_ok nmX3 2 (by decide) tb_261 rfl rfl (by decide +kernel) (fun _ => rfl) (fun _ => rfl) (fun w4 => ?_)
          refine gm_aload_n dX3_arrive_59 rfl rfl ?_
          refine gm_get dX3_arrive_60 ce_7_11 rfl inX3 5 (by decide) tb_264 rfl rfl ?_
          exact gm_iret dX3_arrive_63
      · refine gm_iconst (v := 4) dX3_arrive_32 (by decide) ?_
        exact gm_iret dX3_arrive_33
  · refine gm_iconst (v := 3) dX3_arrive_14 (by decide) ?_
    exact gm_iret dX3_arrive_15
noncomputable def f_X3_arrive : Nat → (Nat → Wd → Int32 → Int32 → Int32 → Option (Int32 × Wd))
  | 0 => fun _ _ _ _ _ => none
  | d + 1 => b_X3_arrive (f_X3_arrive d)
set_option maxRecDepth 100000 in
set_option maxHeartbeats 4000000 in
theorem t_X3_arrive {l : Launch} {E : En} : ∀ (d : Nat) (n : Nat) (hn : n < 7) (w : Wd) (x2 : Int32) (x3 : Int32) (x4 : Int32) (q : Int32 × Wd), f_X3_arrive d n w x2 x3 x4 = some q → Mt l E yX3_arrive cX3_arrive 7 (some .int) (rmk (20 + 3 * d)) [.ref (E.1 7 11), .ref (E.1 n 0), .int (x2), .int (x3), .int (x4)] w (eI q.1) q.2
  | 0, _, _, _, _, _, _, q, h => by cases h
  | d + 1, n, hn, w, x2, x3, x4, q, h => tb_X3_arrive (f_X3_arrive d) (20 + 3 * d) (by omega) (fun n hn w x2 x3 x4 q => t_X3_arrive d n hn w x2 x3 x4 q) n hn w x2 x3 x4 q h

noncomputable def j_X3_start_38 (n : Nat) (w : Wd) (y2 : Int32) (z1 : Int32) : Option (Int32 × Wd) :=
  letw (wup w 7 11 5 z1) fun w6 =>
  (f_X8_empty w6).bind fun q7 =>
  (f_X3_arrive 10 n q7.2 y2 0 (-9)).bind fun q8 =>
  some (q8.1, q8.2)
set_option maxRecDepth 100000 in
set_option maxHeartbeats 4000000 in
theorem k_X3_start_38 {l : Launch} {E : En} (n : Nat) (hn : n < 7) (w : Wd) (y2 : Int32) (z1 : Int32) : Gm l E cX3_start 4 RX3 (some .int) (rmk (51)) eI (j_X3_start_38 n   w y2 z1) w 38 [some (.ref (E.1 7 11)), some (.ref (E.1 n 0)), some (.int (y2)), none] [.int (z1), .ref (E.1 7 11)] := by
  unfold j_X3_start_38
  refine gm_put dX3_start_38 ce_7_11 rfl inX3 tyX3 tyX3_ok nmX3 5 (by decide) tb_264 rfl rfl (by decide +kernel) (fun _ => rfl) (fun _ => rfl) (fun w6 => ?_)
  refine gm_aload_n dX3_start_41 rfl rfl ?_
  refine gm_get dX3_start_42 ce_7_11 rfl inX3 0 (by decide) tb_259 rfl rfl ?_
  refine gm_callVv (As := []) dX3_start_45 (t_X8_empty w6) ce_7_12 rfl cy_X8_empty tb_505 rfl rfl (rm_ok (by decide) (by decide)) (Nat.le_of_ble_eq_true rfl) (fun q7 => ?_)
  refine gm_aload_n dX3_start_48 rfl rfl ?_
  refine gm_aload_n dX3_start_49 rfl rfl ?_
  refine gm_iload_n dX3_start_50 rfl rfl ?_
  refine gm_iconst (v := 0) dX3_start_51 (by decide) ?_
  refine gm_bipush (v := (-9)) dX3_start_52 (by decide) ?_
  refine gm_callVi (As := [.ref (E.1 n 0), .int (y2), .int (0), .int ((-9))]) dX3_start_54 (t_X3_arrive 10 n hn q7.2 y2 0 (-9)) ce_7_11 rfl cy_X3_arrive tb_509 rfl rfl (rm_ok (by decide) (by decide)) (Nat.le_of_ble_eq_true rfl) (fun q8 => ?_)
  exact gm_iret dX3_start_57
noncomputable def f_X3_start (n : Nat) (w : Wd) (x2 : Int32) (x3 : Int32) : Option (Int32 × Wd) :=
  letw (wup w 7 11 3 x3) fun w1 =>
  letw (wup w1 7 11 2 0) fun w2 =>
  (f_X9_bandOf w2 (p_X4_minutes n w2)).bind fun q3 =>
  letw (wup q3.2 7 11 4 q3.1) fun w4 =>
  (f_X0_isBusy n w4 x3).bind fun q5 =>
  if q5.1 = 0 then
    j_X3_start_38 n q5.2 x2 0
  else
    j_X3_start_38 n q5.2 x2 5
set_option maxRecDepth 100000 in
set_option maxHeartbeats 4000000 in
theorem t_X3_start {l : Launch} {E : En} (n : Nat) (hn : n < 7) (w : Wd) (x2 : Int32) (x3 : Int32) : ∀ q, f_X3_start  n w x2 x3 = some q → Mt l E yX3_start cX3_start 4 (some .int) (rmk 51) [.ref (E.1 7 11), .ref (E.1 n 0), .int (x2), .int (x3)] w (eI q.1) q.2 := by
  refine Mt.of [some (.ref (E.1 7 11)), some (.ref (E.1 n 0)), some (.int (x2)), some (.int (x3))] (plainFor_of_name pn_X3) rfl (Nat.le_of_ble_eq_true rfl) rfl ?_
  unfold f_X3_start
  refine gm_aload_n dX3_start_0 rfl rfl ?_
  refine gm_iload_n dX3_start_1 rfl rfl ?_
  refine gm_put dX3_start_2 ce_7_11 rfl inX3 tyX3 tyX3_ok nmX3 3 (by decide) tb_262 rfl rfl (by decide +kernel) (fun _ => rfl) (fun _ => rfl) (fun w1 => ?_)
  refine gm_aload_n dX3_start_5 rfl rfl ?_
  refine gm_iconst (v := 0) dX3_start_6 (by decide) ?_
  refine gm_put dX3_start_7 ce_7_11 rfl inX3 tyX3 tyX3_ok nmX3 2 (by decide) tb_261 rfl rfl (by decide +kernel) (fun _ => rfl) (fun _ => rfl) (fun w2 => ?_)
  refine gm_aload_n dX3_start_10 rfl rfl ?_
  refine gm_aload_n dX3_start_11 rfl rfl ?_
  refine gm_callVk (As := []) dX3_start_12 (tk_X4_minutes n hn w2) (ce_n_0 (n := n) hn) rfl cy_X4_minutes tb_492 rfl rfl (rm_ok (by decide) (by decide)) (Nat.le_of_ble_eq_true rfl) ?_
  refine gm_callNi (As := [.int (p_X4_minutes n w2)]) dX3_start_15 (t_X9_bandOf w2 (p_X4_minutes n w2)) cy_X9_bandOf tb_496 rfl rfl (rm_ok (by decide) (by decide)) (Nat.le_of_ble_eq_true rfl) (fun q3 => ?_)
  refine gm_put dX3_start_18 ce_7_11 rfl inX3 tyX3 tyX3_ok nmX3 4 (by decide) tb_263 rfl rfl (by decide +kernel) (fun _ => rfl) (fun _ => rfl) (fun w4 => ?_)
  refine gm_aload_n dX3_start_21 rfl rfl ?_
  refine gm_aload_n dX3_start_22 rfl rfl ?_
  refine gm_callVk (As := []) dX3_start_23 (tk_X4_callRows n hn w4) (ce_n_0 (n := n) hn) rfl cy_X4_callRows tb_500 rfl rfl (rm_ok (by decide) (by decide)) (Nat.le_of_ble_eq_true rfl) ?_
  refine gm_iload_n dX3_start_26 rfl rfl ?_
  refine gm_callVi (As := [.int (x3)]) dX3_start_27 (t_X0_isBusy n hn w4 x3) (ce_n_13 (n := n) hn) rfl cy_X0_isBusy tb_501 rfl rfl (rm_ok (by decide) (by decide)) (Nat.le_of_ble_eq_true rfl) (fun q5 => ?_)
  refine gm_if_eq (tgt := 37) dX3_start_30 (by decide) ?_ ?_
  · refine gm_iconst (v := 0) dX3_start_37 (by decide) ?_
    exact gm_weak (lsub_s (lsub_s (lsub_s (lsub_n lsub_0)))) (k_X3_start_38 n hn q5.2 x2 0)
  · refine gm_iconst (v := 5) dX3_start_33 (by decide) ?_
    refine gm_goto (tgt := 38) dX3_start_34 (by decide) ?_
    exact gm_weak (lsub_s (lsub_s (lsub_s (lsub_n lsub_0)))) (k_X3_start_38 n hn q5.2 x2 5)

noncomputable def f_X3_trace (w : Wd) : Option (Nat × Wd) :=
  some (7, w)
set_option maxRecDepth 100000 in
set_option maxHeartbeats 4000000 in
theorem t_X3_trace {l : Launch} {E : En} (w : Wd) : ∀ q, f_X3_trace   w  = some q → Mt l E yX3_trace cX3_trace 1 (some (.object "CallRouter$Trace")) (rmk 1) [.ref (E.1 7 11)] w ((eR E 12) q.1) q.2 := by
  refine Mt.of [some (.ref (E.1 7 11))] (plainFor_of_name pn_X3) rfl (Nat.le_of_ble_eq_true rfl) rfl ?_
  unfold f_X3_trace
  refine gm_aload_n dX3_trace_0 rfl rfl ?_
  refine gm_get dX3_trace_1 ce_7_11 rfl inX3 0 (by decide) tb_259 rfl rfl ?_
  exact gm_aret dX3_trace_4
theorem tk_X3_trace {l : Launch} {E : En} (w : Wd) : Mt l E yX3_trace cX3_trace 1 (some (.object "CallRouter$Trace")) (rmk 1) [.ref (E.1 7 11)] w (some (.ref (E.1 7 12))) w := t_X3_trace   w _ rfl
