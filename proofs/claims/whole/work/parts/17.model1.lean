noncomputable def f_X10_in (w : Wd) (x0 : Int32) (x1 : Int32) (x2 : Int32) : Option (Int32 × Wd) :=
  if x0 < x1 then
    some (0, w)
  else
    if x2 < x0 then
      some (0, w)
    else
      some (1, w)
set_option maxRecDepth 100000 in
set_option maxHeartbeats 4000000 in
theorem t_X10_in {l : Launch} {E : En} (w : Wd) (x0 : Int32) (x1 : Int32) (x2 : Int32) : ∀ q, f_X10_in   w x0 x1 x2 = some q → Mt l E yX10_in cX10_in 3 (some .boolean) (rmk 1) [.int (x0), .int (x1), .int (x2)] w (eI q.1) q.2 := by
  refine Mt.of [some (.int (x0)), some (.int (x1)), some (.int (x2))] (plainFor_of_name pn_X10) rfl (Nat.le_of_ble_eq_true rfl) rfl ?_
  unfold f_X10_in
  refine gm_iload_n dX10_in_0 rfl rfl ?_
  refine gm_iload_n dX10_in_1 rfl rfl ?_
  refine gm_icmp_lt (tgt := 14) dX10_in_2 (by decide) ?_ ?_
  · refine gm_iconst (v := 0) dX10_in_14 (by decide) ?_
    exact gm_zret dX10_in_15 rfl
  · refine gm_iload_n dX10_in_5 rfl rfl ?_
    refine gm_iload_n dX10_in_6 rfl rfl ?_
    refine gm_icmp_gt (tgt := 14) dX10_in_7 (by decide) ?_ ?_
    · refine gm_iconst (v := 0) dX10_in_14 (by decide) ?_
      exact gm_zret dX10_in_15 rfl
    · refine gm_iconst (v := 1) dX10_in_10 (by decide) ?_
      refine gm_goto (tgt := 15) dX10_in_11 (by decide) ?_
      exact gm_zret dX10_in_15 rfl
noncomputable def p_X10_in (w : Wd) (x0 : Int32) (x1 : Int32) (x2 : Int32) : Int32 :=
  if x0 < x1 then
    0
  else
    if x2 < x0 then
      0
    else
      1
theorem fp_X10_in (w : Wd) (x0 : Int32) (x1 : Int32) (x2 : Int32) : f_X10_in  w x0 x1 x2 = some (p_X10_in  w x0 x1 x2, w) := by
  unfold f_X10_in p_X10_in
  (try simp only [leti, letl])
  repeat' (first | rfl | split)
theorem tk_X10_in {l : Launch} {E : En} (w : Wd) (x0 : Int32) (x1 : Int32) (x2 : Int32) : Mt l E yX10_in cX10_in 3 (some .boolean) (rmk 1) [.int (x0), .int (x1), .int (x2)] w (some (.int (p_X10_in  w x0 x1 x2))) w := t_X10_in   w x0 x1 x2 _ (fp_X10_in  w x0 x1 x2)

noncomputable def f_X10_isSwitch (w : Wd) (x1 : Int32) : Option (Int32 × Wd) :=
  if ib 0 640 = true then
  if zb (p_X10_in w x1 0 ((w 8 1 (Int32.toNatClampNeg 0)) - 1)) = true then
  some (p_X10_in w x1 0 ((w 8 1 (Int32.toNatClampNeg 0)) - 1), w)
  else none
  else none
set_option maxRecDepth 100000 in
set_option maxHeartbeats 4000000 in
theorem t_X10_isSwitch {l : Launch} {E : En} (w : Wd) (x1 : Int32) : ∀ q, f_X10_isSwitch   w x1 = some q → Mt l E yX10_isSwitch cX10_isSwitch 2 (some .boolean) (rmk 2) [.ref (E.1 8 0), .int (x1)] w (eI q.1) q.2 := by
  refine Mt.of [some (.ref (E.1 8 0)), some (.int (x1))] (plainFor_of_name pn_X10) rfl (Nat.le_of_ble_eq_true rfl) rfl ?_
  unfold f_X10_isSwitch
  refine gm_iload_n dX10_isSwitch_0 rfl rfl ?_
  refine gm_iconst (v := 0) dX10_isSwitch_1 (by decide) ?_
  refine gm_aload_n dX10_isSwitch_2 rfl rfl ?_
  refine gm_get dX10_isSwitch_3 ce_8_0 rfl inX10 0 (by decide) tb_944 rfl rfl ?_
  refine gm_iconst (v := 0) dX10_isSwitch_6 (by decide) ?_
  refine gm_iald dX10_isSwitch_7 ce_8_1 ?_
  refine gm_iconst (v := 1) dX10_isSwitch_8 (by decide) ?_
  refine gm_isub dX10_isSwitch_9 ?_
  refine gm_callSk (As := [.int (x1), .int (0), .int ((w 8 1 (Int32.toNatClampNeg 0)) - 1)]) dX10_isSwitch_10 (tk_X10_in w x1 0 ((w 8 1 (Int32.toNatClampNeg 0)) - 1)) cy_X10_in tb_1033 rfl rfl (rm_ok (by decide) (by decide)) (Nat.le_of_ble_eq_true rfl) ?_
  exact gm_zret_g dX10_isSwitch_13

noncomputable def f_X10_isRoute (w : Wd) (x1 : Int32) (x2 : Int32) (x3 : Int32) (x4 : Int32) (x5 : Int32) : Option (Int32 × Wd) :=
  (f_X10_isSwitch w x1).bind fun q1 =>
  if q1.1 = 0 then
    some (0, q1.2)
  else
    (f_X10_isSwitch q1.2 x3).bind fun q2 =>
    if q2.1 = 0 then
      some (0, q2.2)
    else
      if (p_X10_in q2.2 x2 0 999999999) = 0 then
        some (0, q2.2)
      else
        if (p_X10_in q2.2 x4 0 1000) = 0 then
          some (0, q2.2)
        else
          if (p_X10_in q2.2 x5 1 20) = 0 then
            some (0, q2.2)
          else
            some (1, q2.2)
set_option maxRecDepth 100000 in
set_option maxHeartbeats 4000000 in
theorem t_X10_isRoute {l : Launch} {E : En} (w : Wd) (x1 : Int32) (x2 : Int32) (x3 : Int32) (x4 : Int32) (x5 : Int32) : ∀ q, f_X10_isRoute   w x1 x2 x3 x4 x5 = some q → Mt l E yX10_isRoute cX10_isRoute 6 (some .boolean) (rmk 3) [.ref (E.1 8 0), .int (x1), .int (x2), .int (x3), .int (x4), .int (x5)] w (eI q.1) q.2 := by
  refine Mt.of [some (.ref (E.1 8 0)), some (.int (x1)), some (.int (x2)), some (.int (x3)), some (.int (x4)), some (.int (x5))] (plainFor_of_name pn_X10) rfl (Nat.le_of_ble_eq_true rfl) rfl ?_
  unfold f_X10_isRoute
  refine gm_aload_n dX10_isRoute_0 rfl rfl ?_
  refine gm_iload_n dX10_isRoute_1 rfl rfl ?_
  refine gm_callVi (As := [.int (x1)]) dX10_isRoute_2 (t_X10_isSwitch w x1) ce_8_0 rfl cy_X10_isSwitch tb_1029 rfl rfl (rm_ok (by decide) (by decide)) (Nat.le_of_ble_eq_true rfl) (fun q1 => ?_)
  refine gm_if_eq (tgt := 53) dX10_isRoute_5 (by decide) ?_ ?_
  · refine gm_iconst (v := 0) dX10_isRoute_53 (by decide) ?_
    exact gm_zret dX10_isRoute_54 rfl
  · refine gm_aload_n dX10_isRoute_8 rfl rfl ?_
    refine gm_iload_n dX10_isRoute_9 rfl rfl ?_
    refine gm_callVi (As := [.int (x3)]) dX10_isRoute_10 (t_X10_isSwitch q1.2 x3) ce_8_0 rfl cy_X10_isSwitch tb_1029 rfl rfl (rm_ok (by decide) (by decide)) (Nat.le_of_ble_eq_true rfl) (fun q2 => ?_)
    refine gm_if_eq (tgt := 53) dX10_isRoute_13 (by decide) ?_ ?_
    · refine gm_iconst (v := 0) dX10_isRoute_53 (by decide) ?_
      exact gm_zret dX10_isRoute_54 rfl
    · refine gm_iload_n dX10_isRoute_16 rfl rfl ?_
      refine gm_iconst (v := 0) dX10_isRoute_17 (by decide) ?_
      refine gm_ldc (v := 999999999) dX10_isRoute_18 tb_1056 ?_
      refine gm_callSk (As := [.int (x2), .int (0), .int (999999999)]) dX10_isRoute_20 (tk_X10_in q2.2 x2 0 999999999) cy_X10_in tb_1033 rfl rfl (rm_ok (by decide) (by decide)) (Nat.le_of_ble_eq_true rfl) ?_
      refine gm_if_eq (tgt := 53) dX10_isRoute_23 (by decide) ?_ ?_
      · refine gm_iconst (v := 0) dX10_isRoute_53 (by decide) ?_
        exact gm_zret dX10_isRoute_54 rfl
      · refine gm_iload dX10_isRoute_26 rfl ?_
        refine gm_iconst (v := 0) dX10_isRoute_28 (by decide) ?_
        refine gm_sipush (v := 1000) dX10_isRoute_29 (by decide) ?_
        refine gm_callSk (As := [.int (x4), .int (0), .int (1000)]) dX10_isRoute_32 (tk_X10_in q2.2 x4 0 1000) cy_X10_in tb_1033 rfl rfl (rm_ok (by decide) (by decide)) (Nat.le_of_ble_eq_true rfl) ?_
        refine gm_if_eq (tgt := 53) dX10_isRoute_35 (by decide) ?_ ?_
        · refine gm_iconst (v := 0) dX10_isRoute_53 (by decide) ?_
          exact gm_zret dX10_isRoute_54 rfl
        · refine gm_iload dX10_isRoute_38 rfl ?_
          refine gm_iconst (v := 1) dX10_isRoute_40 (by decide) ?_
          refine gm_bipush (v := 20) dX10_isRoute_41 (by decide) ?_
          refine gm_callSk (As := [.int (x5), .int (1), .int (20)]) dX10_isRoute_43 (tk_X10_in q2.2 x5 1 20) cy_X10_in tb_1033 rfl rfl (rm_ok (by decide) (by decide)) (Nat.le_of_ble_eq_true rfl) ?_
          refine gm_if_eq (tgt := 53) dX10_isRoute_46 (by decide) ?_ ?_
          · refine gm_iconst (v := 0) dX10_isRoute_53 (by decide) ?_
            exact gm_zret dX10_isRoute_54 rfl
          · refine gm_iconst (v := 1) dX10_isRoute_49 (by decide) ?_
            refine gm_goto (tgt := 54) dX10_isRoute_50 (by decide) ?_
            exact gm_zret dX10_isRoute_54 rfl

noncomputable def b_X10_keeps_51 (c2 : Nat) (rc51 : Wd → Int32 → Option (Unit × Wd)) (w : Wd) (y2 : Int32) : Option (Unit × Wd) :=
  if 640 ≤ y2 then
    letw (wup w 8 0 3 ((w 8 0 3) + 1)) fun w1 =>
    some ((), w1)
  else
    if ib y2 640 = true then
    if ib ((640 * (w 8 0 3)) + y2) 3200 = true then
    letw (wup w 8 3 (Int32.toNatClampNeg ((640 * (w 8 0 3)) + y2)) (w 8 c2 (Int32.toNatClampNeg y2))) fun w2 =>
    rc51 w2 (y2 + 1)
    else none
    else none
set_option maxRecDepth 100000 in
set_option maxHeartbeats 4000000 in
theorem kb_X10_keeps_51 {l : Launch} {E : En} (c2 : Nat) (hc2 : AI E 8 c2 640) (rc51 : Wd → Int32 → Option (Unit × Wd)) (hrc51 : ∀ (w : Wd) (y2 : Int32), Gm l E cX10_keeps 3 RX10 none (rmk (1)) eV (rc51 w y2) w 51 [some (.ref (E.1 8 0)), some (.ref (E.1 8 c2)), some (.int (y2))] []) (w : Wd) (y2 : Int32) : Gm l E cX10_keeps 3 RX10 none (rmk (1)) eV (b_X10_keeps_51 c2  rc51 w y2) w 51 [some (.ref (E.1 8 0)), some (.ref (E.1 8 c2)), some (.int (y2))] [] := by
  unfold b_X10_keeps_51
  refine gm_iload_n dX10_keeps_51 rfl rfl ?_
  refine gm_sipush (v := 640) dX10_keeps_52 (by decide) ?_
  refine gm_icmp_ge (tgt := 82) dX10_keeps_55 (by decide) ?_ ?_
  · refine gm_aload_n dX10_keeps_82 rfl rfl ?_
    refine gm_dup dX10_keeps_83 rfl ?_
    refine gm_get dX10_keeps_84 ce_8_0 rfl inX10 3 (by decide) tb_947 rfl rfl ?_
    refine gm_iconst (v := 1) dX10_keeps_87 (by decide) ?_
    refine gm_iadd dX10_keeps_88 ?_
    refine gm_put dX10_keeps_89 ce_8_0 rfl inX10 tyX10 tyX10_ok nmX10 3 (by decide) tb_947 rfl rfl (by decide +kernel) (fun _ => rfl) (fun _ => rfl) (fun w1 => ?_)
    exact gm_vret dX10_keeps_92
  · refine gm_aload_n dX10_keeps_58 rfl rfl ?_
    refine gm_get dX10_keeps_59 ce_8_0 rfl inX10 2 (by decide) tb_946 rfl rfl ?_
    refine gm_sipush (v := 640) dX10_keeps_62 (by decide) ?_
    refine gm_aload_n dX10_keeps_65 rfl rfl ?_
    refine gm_get dX10_keeps_66 ce_8_0 rfl inX10 3 (by decide) tb_947 rfl rfl ?_
    refine gm_imul dX10_keeps_69 ?_
    refine gm_iload_n dX10_keeps_70 rfl rfl ?_
    refine gm_iadd dX10_keeps_71 ?_
    refine gm_aload_n dX10_keeps_72 rfl rfl ?_
    refine gm_iload_n dX10_keeps_73 rfl rfl ?_
    refine gm_iald dX10_keeps_74 hc2 ?_
    refine gm_iast dX10_keeps_75 ce_8_3 (fun w2 => ?_)
    refine gm_iinc (v := 1) (lv' := [some (.ref (E.1 8 0)), some (.ref (E.1 8 c2)), some (.int (y2 + 1))]) dX10_keeps_76 rfl (by decide) (by decide) rfl rfl ?_
    refine gm_goto (tgt := 51) dX10_keeps_79 (by decide) ?_
    exact gm_weak (lsub_s (lsub_s (lsub_s lsub_0))) (hrc51 w2 (y2 + 1))
noncomputable def h_X10_keeps_51 (c2 : Nat) : Nat → (Wd → Int32 → Option (Unit × Wd))
  | 0 => fun _ _ => none
  | fu + 1 => b_X10_keeps_51 c2   (h_X10_keeps_51 c2   fu)
set_option maxRecDepth 100000 in
set_option maxHeartbeats 4000000 in
theorem k_X10_keeps_51 {l : Launch} {E : En} (c2 : Nat) (hc2 : AI E 8 c2 640) : ∀ (fu : Nat) (w : Wd) (y2 : Int32), Gm l E cX10_keeps 3 RX10 none (rmk (1)) eV (h_X10_keeps_51 c2   fu w y2) w 51 [some (.ref (E.1 8 0)), some (.ref (E.1 8 c2)), some (.int (y2))] []
  | 0, _, _ => gm_none
  | fu + 1, w, y2 => kb_X10_keeps_51 c2 hc2   (h_X10_keeps_51 c2   fu)  (fun w y2 => k_X10_keeps_51 c2 hc2    fu w y2) w y2
noncomputable def b_X10_keeps_10 (c2 : Nat) (rc10 : Wd → Int32 → Option (Unit × Wd)) (w : Wd) (y2 : Int32) : Option (Unit × Wd) :=
  if 2560 ≤ y2 then
    letw (wup w 8 0 3 ((w 8 0 3) - 1)) fun w3 =>
    h_X10_keeps_51 c2 FU w3 0
  else
    if ib (y2 + 640) 3200 = true then
    if ib y2 3200 = true then
    letw (wup w 8 3 (Int32.toNatClampNeg y2) (w 8 3 (Int32.toNatClampNeg (y2 + 640)))) fun w4 =>
    rc10 w4 (y2 + 1)
    else none
    else none
set_option maxRecDepth 100000 in
set_option maxHeartbeats 4000000 in
theorem kb_X10_keeps_10 {l : Launch} {E : En} (c2 : Nat) (hc2 : AI E 8 c2 640) (rc10 : Wd → Int32 → Option (Unit × Wd)) (hrc10 : ∀ (w : Wd) (y2 : Int32), Gm l E cX10_keeps 3 RX10 none (rmk (1)) eV (rc10 w y2) w 10 [some (.ref (E.1 8 0)), some (.ref (E.1 8 c2)), some (.int (y2))] []) (w : Wd) (y2 : Int32) : Gm l E cX10_keeps 3 RX10 none (rmk (1)) eV (b_X10_keeps_10 c2  rc10 w y2) w 10 [some (.ref (E.1 8 0)), some (.ref (E.1 8 c2)), some (.int (y2))] [] := by
  unfold b_X10_keeps_10
  refine gm_iload_n dX10_keeps_10 rfl rfl ?_
  refine gm_sipush (v := 2560) dX10_keeps_11 (by decide) ?_
  refine gm_icmp_ge (tgt := 39) dX10_keeps_14 (by decide) ?_ ?_
  · refine gm_aload_n dX10_keeps_39 rfl rfl ?_
    refine gm_dup dX10_keeps_40 rfl ?_
    refine gm_get dX10_keeps_41 ce_8_0 rfl inX10 3 (by decide) tb_947 rfl rfl ?_
    refine gm_iconst (v := 1) dX10_keeps_44 (by decide) ?_
    refine gm_isub dX10_keeps_45 ?_
    refine gm_put dX10_keeps_46 ce_8_0 rfl inX10 tyX10 tyX10_ok nmX10 3 (by decide) tb_947 rfl rfl (by decide +kernel) (fun _ => rfl) (fun _ => rfl) (fun w3 => ?_)
    refine gm_iconst (v := 0) dX10_keeps_49 (by decide) ?_
    refine gm_istore_n (lv' := [some (.ref (E.1 8 0)), some (.ref (E.1 8 c2)), some (.int (0))]) dX10_keeps_50 rfl (by decide) rfl rfl ?_
    exact gm_weak (lsub_s (lsub_s (lsub_s lsub_0))) (k_X10_keeps_51 c2 hc2 FU w3 0)
  · refine gm_aload_n dX10_keeps_17 rfl rfl ?_
    refine gm_get dX10_keeps_18 ce_8_0 rfl inX10 2 (by decide) tb_946 rfl rfl ?_
    refine gm_iload_n dX10_keeps_21 rfl rfl ?_
    refine gm_aload_n dX10_keeps_22 rfl rfl ?_
    refine gm_get dX10_keeps_23 ce_8_0 rfl inX10 2 (by decide) tb_946 rfl rfl ?_
    refine gm_iload_n dX10_keeps_26 rfl rfl ?_
    refine gm_sipush (v := 640) dX10_keeps_27 (by decide) ?_
    refine gm_iadd dX10_keeps_30 ?_
    refine gm_iald dX10_keeps_31 ce_8_3 ?_
    refine gm_iast dX10_keeps_32 ce_8_3 (fun w4 => ?_)
    refine gm_iinc (v := 1) (lv' := [some (.ref (E.1 8 0)), some (.ref (E.1 8 c2)), some (.int (y2 + 1))]) dX10_keeps_33 rfl (by decide) (by decide) rfl rfl ?_
    refine gm_goto (tgt := 10) dX10_keeps_36 (by decide) ?_
    exact gm_weak (lsub_s (lsub_s (lsub_s lsub_0))) (hrc10 w4 (y2 + 1))
noncomputable def h_X10_keeps_10 (c2 : Nat) : Nat → (Wd → Int32 → Option (Unit × Wd))
  | 0 => fun _ _ => none
  | fu + 1 => b_X10_keeps_10 c2   (h_X10_keeps_10 c2   fu)
set_option maxRecDepth 100000 in
set_option maxHeartbeats 4000000 in
theorem k_X10_keeps_10 {l : Launch} {E : En} (c2 : Nat) (hc2 : AI E 8 c2 640) : ∀ (fu : Nat) (w : Wd) (y2 : Int32), Gm l E cX10_keeps 3 RX10 none (rmk (1)) eV (h_X10_keeps_10 c2   fu w y2) w 10 [some (.ref (E.1 8 0)), some (.ref (E.1 8 c2)), some (.int (y2))] []
  | 0, _, _ => gm_none
  | fu + 1, w, y2 => kb_X10_keeps_10 c2 hc2   (h_X10_keeps_10 c2   fu)  (fun w y2 => k_X10_keeps_10 c2 hc2    fu w y2) w y2
noncomputable def f_X10_keeps (c2 : Nat) (w : Wd) : Option (Unit × Wd) :=
  if (w 8 0 3) = 5 then
    h_X10_keeps_10 c2 FU w 0
  else
    h_X10_keeps_51 c2 FU w 0
set_option maxRecDepth 100000 in
set_option maxHeartbeats 4000000 in
theorem t_X10_keeps {l : Launch} {E : En} (c2 : Nat) (hc2 : AI E 8 c2 640) (w : Wd) : ∀ q, f_X10_keeps  c2 w  = some q → Mt l E yX10_keeps cX10_keeps 3 none (rmk 1) [.ref (E.1 8 0), .ref (E.1 8 c2)] w (eV q.1) q.2 := by
  refine Mt.of [some (.ref (E.1 8 0)), some (.ref (E.1 8 c2)), none] (plainFor_of_name pn_X10) rfl (Nat.le_of_ble_eq_true rfl) rfl ?_
  unfold f_X10_keeps
  refine gm_aload_n dX10_keeps_0 rfl rfl ?_
  refine gm_get dX10_keeps_1 ce_8_0 rfl inX10 3 (by decide) tb_947 rfl rfl ?_
  refine gm_iconst (v := 5) dX10_keeps_4 (by decide) ?_
  refine gm_icmp_ne (tgt := 49) dX10_keeps_5 (by decide) ?_ ?_
  · refine gm_iconst (v := 0) dX10_keeps_49 (by decide) ?_
    refine gm_istore_n (lv' := [some (.ref (E.1 8 0)), some (.ref (E.1 8 c2)), some (.int (0))]) dX10_keeps_50 rfl (by decide) rfl rfl ?_
    exact gm_weak (lsub_s (lsub_s (lsub_s lsub_0))) (k_X10_keeps_51 c2 hc2 FU w 0)
  · refine gm_iconst (v := 0) dX10_keeps_8 (by decide) ?_
    refine gm_istore_n (lv' := [some (.ref (E.1 8 0)), some (.ref (E.1 8 c2)), some (.int (0))]) dX10_keeps_9 rfl (by decide) rfl rfl ?_
    exact gm_weak (lsub_s (lsub_s (lsub_s lsub_0))) (k_X10_keeps_10 c2 hc2 FU w 0)

noncomputable def f_X10_routes (w : Wd) (x1 : Int32) (x2 : Int32) (x3 : Int32) (x4 : Int32) (x5 : Int32) : Option (Unit × Wd) :=
  if ib 1 640 = true then
  leti (30 + (8 * (w 8 1 (Int32.toNatClampNeg 1)))) fun u1 =>
  if ib u1 640 = true then
  letw (wup w 8 1 (Int32.toNatClampNeg u1) x1) fun w2 =>
  if ib (u1 + 1) 640 = true then
  letw (wup w2 8 1 (Int32.toNatClampNeg (u1 + 1)) x2) fun w3 =>
  if ib (u1 + 2) 640 = true then
  letw (wup w3 8 1 (Int32.toNatClampNeg (u1 + 2)) x3) fun w4 =>
  if ib (u1 + 3) 640 = true then
  letw (wup w4 8 1 (Int32.toNatClampNeg (u1 + 3)) x4) fun w5 =>
  if ib (u1 + 4) 640 = true then
  letw (wup w5 8 1 (Int32.toNatClampNeg (u1 + 4)) x4) fun w6 =>
  if ib (u1 + 5) 640 = true then
  letw (wup w6 8 1 (Int32.toNatClampNeg (u1 + 5)) x4) fun w7 =>
  if ib (u1 + 6) 640 = true then
  letw (wup w7 8 1 (Int32.toNatClampNeg (u1 + 6)) x5) fun w8 =>
  if ib (u1 + 7) 640 = true then
  letw (wup w8 8 1 (Int32.toNatClampNeg (u1 + 7)) 0) fun w9 =>
  if ib 1 640 = true then
  if ib 1 640 = true then
  letw (wup w9 8 1 (Int32.toNatClampNeg 1) ((w9 8 1 (Int32.toNatClampNeg 1)) + 1)) fun w10 =>
  some ((), w10)
  else none
  else none
  else none
  else none
  else none
  else none
  else none
  else none
  else none
  else none
  else none
set_option maxRecDepth 100000 in
set_option maxHeartbeats 4000000 in
theorem t_X10_routes {l : Launch} {E : En} (w : Wd) (x1 : Int32) (x2 : Int32) (x3 : Int32) (x4 : Int32) (x5 : Int32) : ∀ q, f_X10_routes   w x1 x2 x3 x4 x5 = some q → Mt l E yX10_routes cX10_routes 7 none (rmk 1) [.ref (E.1 8 0), .int (x1), .int (x2), .int (x3), .int (x4), .int (x5)] w (eV q.1) q.2 := by
  refine Mt.of [some (.ref (E.1 8 0)), some (.int (x1)), some (.int (x2)), some (.int (x3)), some (.int (x4)), some (.int (x5)), none] (plainFor_of_name pn_X10) rfl (Nat.le_of_ble_eq_true rfl) rfl ?_
  unfold f_X10_routes
  refine gm_bipush (v := 30) dX10_routes_0 (by decide) ?_
  refine gm_bipush (v := 8) dX10_routes_2 (by decide) ?_
  refine gm_aload_n dX10_routes_4 rfl rfl ?_
  refine gm_get dX10_routes_5 ce_8_0 rfl inX10 0 (by decide) tb_944 rfl rfl ?_
  refine gm_iconst (v := 1) dX10_routes_8 (by decide) ?_
  refine gm_iald dX10_routes_9 ce_8_1 ?_
  refine gm_imul dX10_routes_10 ?_
  refine gm_iadd dX10_routes_11 ?_
  refine gm_leti_st (fun u1 => ?_)
  refine gm_istore (lv' := [some (.ref (E.1 8 0)), some (.int (x1)), some (.int (x2)), some (.int (x3)), some (.int (x4)), some (.int (x5)), some (.int (u1))]) dX10_routes_12 (by decide) rfl rfl ?_
  refine gm_aload_n dX10_routes_14 rfl rfl ?_
  refine gm_get dX10_routes_15 ce_8_0 rfl inX10 0 (by decide) tb_944 rfl rfl ?_
  refine gm_iload dX10_routes_18 rfl ?_
  refine gm_iload_n dX10_routes_20 rfl rfl ?_
  refine gm_iast dX10_routes_21 ce_8_1 (fun w2 => ?_)
  refine gm_aload_n dX10_routes_22 rfl rfl ?_
  refine gm_get dX10_routes_23 ce_8_0 rfl inX10 0 (by decide) tb_944 rfl rfl ?_
  refine gm_iload dX10_routes_26 rfl ?_
  refine gm_iconst (v := 1) dX10_routes_28 (by decide) ?_
  refine gm_iadd dX10_routes_29 ?_
  refine gm_iload_n dX10_routes_30 rfl rfl ?_
  refine gm_iast dX10_routes_31 ce_8_1 (fun w3 => ?_)
  refine gm_aload_n dX10_routes_32 rfl rfl ?_
  refine gm_get dX10_routes_33 ce_8_0 rfl inX10 0 (by decide) tb_944 rfl rfl ?_
  refine gm_iload dX10_routes_36 rfl ?_
  refine gm_iconst (v := 2) dX10_routes_38 (by decide) ?_
  refine gm_iadd dX10_routes_39 ?_
  refine gm_iload_n dX10_routes_40 rfl rfl ?_
  refine gm_iast dX10_routes_41 ce_8_1 (fun w4 => ?_)
  refine gm_aload_n dX10_routes_42 rfl rfl ?_
  refine gm_get dX10_routes_43 ce_8_0 rfl inX10 0 (by decide) tb_944 rfl rfl ?_
  refine gm_iload dX10_routes_46 rfl ?_
  refine gm_iconst (v := 3) dX10_routes_48 (by decide) ?_
  refine gm_iadd dX10_routes_49 ?_
  refine gm_iload dX10_routes_50 rfl ?_
  refine gm_iast dX10_routes_52 ce_8_1 (fun w5 => ?_)
  refine gm_aload_n dX10_routes_53 rfl rfl ?_
  refine gm_get dX10_routes_54 ce_8_0 rfl inX10 0 (by decide) tb_944 rfl rfl ?_
  refine gm_iload dX10_routes_57 rfl ?_
  refine gm_iconst (v := 4) dX10_routes_59 (by decide) ?_
  refine gm_iadd dX10_routes_60 ?_
  refine gm_iload dX10_routes_61 rfl ?_
  refine gm_iast dX10_routes_63 ce_8_1 (fun w6 => ?_)
  refine gm_aload_n dX10_routes_64 rfl rfl ?_
  refine gm_get dX10_routes_65 ce_8_0 rfl inX10 0 (by decide) tb_944 rfl rfl ?_
  refine gm_iload dX10_routes_68 rfl ?_
  refine gm_iconst (v := 5) dX10_routes_70 (by decide) ?_
  refine gm_iadd dX10_routes_71 ?_
  refine gm_iload dX10_routes_72 rfl ?_
  refine gm_iast dX10_routes_74 ce_8_1 (fun w7 => ?_)
  refine gm_aload_n dX10_routes_75 rfl rfl ?_
  refine gm_get dX10_routes_76 ce_8_0 rfl inX10 0 (by decide) tb_944 rfl rfl ?_
  refine gm_iload dX10_routes_79 rfl ?_
  refine gm_bipush (v := 6) dX10_routes_81 (by decide) ?_
  refine gm_iadd dX10_routes_83 ?_
  refine gm_iload dX10_routes_84 rfl ?_
  refine gm_iast dX10_routes_86 ce_8_1 (fun w8 => ?_)
  refine gm_aload_n dX10_routes_87 rfl rfl ?_
  refine gm_get dX10_routes_88 ce_8_0 rfl inX10 0 (by decide) tb_944 rfl rfl ?_
  refine gm_iload dX10_routes_91 rfl ?_
  refine gm_bipush (v := 7) dX10_routes_93 (by decide) ?_
  refine gm_iadd dX10_routes_95 ?_
  refine gm_iconst (v := 0) dX10_routes_96 (by decide) ?_
  refine gm_iast dX10_routes_97 ce_8_1 (fun w9 => ?_)
  refine gm_aload_n dX10_routes_98 rfl rfl ?_
  refine gm_get dX10_routes_99 ce_8_0 rfl inX10 0 (by decide) tb_944 rfl rfl ?_
  refine gm_iconst (v := 1) dX10_routes_102 (by decide) ?_
  refine gm_dup2 dX10_routes_103 rfl rfl ?_
  refine gm_iald dX10_routes_104 ce_8_1 ?_
  refine gm_iconst (v := 1) dX10_routes_105 (by decide) ?_
  refine gm_iadd dX10_routes_106 ?_
  refine gm_iast dX10_routes_107 ce_8_1 (fun w10 => ?_)
  exact gm_vret dX10_routes_108

noncomputable def f_X10_addRoute (w : Wd) (x1 : Int32) (x2 : Int32) (x3 : Int32) (x4 : Int32) (x5 : Int32) : Option (Int32 × Wd) :=
  (f_X10_isRoute w x1 x2 x3 x4 x5).bind fun q1 =>
  if q1.1 = 0 then
    some ((-1), q1.2)
  else
    if ib 1 640 = true then
    if (q1.2 8 1 (Int32.toNatClampNeg 1)) = 40 then
      some ((-3), q1.2)
    else
      (f_X10_keeps 1 q1.2).bind fun q2 =>
      (f_X10_routes q2.2 x1 x2 x3 x4 x5).bind fun q3 =>
      if ib 1 640 = true then
      some ((q3.2 8 1 (Int32.toNatClampNeg 1)) - 1, q3.2)
      else none
    else none
set_option maxRecDepth 100000 in
set_option maxHeartbeats 4000000 in
theorem t_X10_addRoute {l : Launch} {E : En} (w : Wd) (x1 : Int32) (x2 : Int32) (x3 : Int32) (x4 : Int32) (x5 : Int32) : ∀ q, f_X10_addRoute   w x1 x2 x3 x4 x5 = some q → Mt l E yX10_addRoute cX10_addRoute 6 (some .int) (rmk 4) [.ref (E.1 8 0), .int (x1), .int (x2), .int (x3), .int (x4), .int (x5)] w (eI q.1) q.2 := by
  refine Mt.of [some (.ref (E.1 8 0)), some (.int (x1)), some (.int (x2)), some (.int (x3)), some (.int (x4)), some (.int (x5))] (plainFor_of_name pn_X10) rfl (Nat.le_of_ble_eq_true rfl) rfl ?_
  unfold f_X10_addRoute
  refine gm_aload_n dX10_addRoute_0 rfl rfl ?_
  refine gm_iload_n dX10_addRoute_1 rfl rfl ?_
  refine gm_iload_n dX10_addRoute_2 rfl rfl ?_
  refine gm_iload_n dX10_addRoute_3 rfl rfl ?_
  refine gm_iload dX10_addRoute_4 rfl ?_
  refine gm_iload dX10_addRoute_6 rfl ?_
  refine gm_callVi (As := [.int (x1), .int (x2), .int (x3), .int (x4), .int (x5)]) dX10_addRoute_8 (t_X10_isRoute w x1 x2 x3 x4 x5) ce_8_0 rfl cy_X10_isRoute tb_1052 rfl rfl (rm_ok (by decide) (by decide)) (Nat.le_of_ble_eq_true rfl) (fun q1 => ?_)
  refine gm_if_ne (tgt := 16) dX10_addRoute_11 (by decide) ?_ ?_
  · refine gm_aload_n dX10_addRoute_16 rfl rfl ?_
    refine gm_get dX10_addRoute_17 ce_8_0 rfl inX10 0 (by decide) tb_944 rfl rfl ?_
    refine gm_iconst (v := 1) dX10_addRoute_20 (by decide) ?_
    refine gm_iald dX10_addRoute_21 ce_8_1 ?_
    refine gm_bipush (v := 40) dX10_addRoute_22 (by decide) ?_
    refine gm_icmp_ne (tgt := 30) dX10_addRoute_24 (by decide) ?_ ?_
    · refine gm_aload_n dX10_addRoute_30 rfl rfl ?_
      refine gm_aload_n dX10_addRoute_31 rfl rfl ?_
      refine gm_get dX10_addRoute_32 ce_8_0 rfl inX10 0 (by decide) tb_944 rfl rfl ?_
      refine gm_callVv (As := [.ref (E.1 8 1)]) dX10_addRoute_35 (t_X10_keeps 1 ce_8_1 q1.2) ce_8_0 rfl cy_X10_keeps tb_1021 rfl rfl (rm_ok (by decide) (by decide)) (Nat.le_of_ble_eq_true rfl) (fun q2 => ?_)
      refine gm_aload_n dX10_addRoute_38 rfl rfl ?_
      refine gm_iload_n dX10_addRoute_39 rfl rfl ?_
      refine gm_iload_n dX10_addRoute_40 rfl rfl ?_
      refine gm_iload_n dX10_addRoute_41 rfl rfl ?_
      refine gm_iload dX10_addRoute_42 rfl ?_
      refine gm_iload dX10_addRoute_44 rfl ?_
      refine gm_callVv (As := [.int (x1), .int (x2), .int (x3), .int (x4), .int (x5)]) dX10_addRoute_46 (t_X10_routes q2.2 x1 x2 x3 x4 x5) ce_8_0 rfl cy_X10_routes tb_1057 rfl rfl (rm_ok (by decide) (by decide)) (Nat.le_of_ble_eq_true rfl) (fun q3 => ?_)
      refine gm_aload_n dX10_addRoute_49 rfl rfl ?_
      refine gm_get dX10_addRoute_50 ce_8_0 rfl inX10 0 (by decide) tb_944 rfl rfl ?_
      refine gm_iconst (v := 1) dX10_addRoute_53 (by decide) ?_
      refine gm_iald dX10_addRoute_54 ce_8_1 ?_
      refine gm_iconst (v := 1) dX10_addRoute_55 (by decide) ?_
      refine gm_isub dX10_addRoute_56 ?_
      exact gm_iret dX10_addRoute_57
    · refine gm_bipush (v := (-3)) dX10_addRoute_27 (by decide) ?_
      exact gm_iret dX10_addRoute_29
  · refine gm_iconst (v := (-1)) dX10_addRoute_14 (by decide) ?_
    exact gm_iret dX10_addRoute_15

noncomputable def f_X10_addSwitch (w : Wd) : Option (Int32 × Wd) :=
  if ib 0 640 = true then
  if (w 8 1 (Int32.toNatClampNeg 0)) = 8 then
    some ((-3), w)
  else
    (f_X10_keeps 1 w).bind fun q1 =>
    if ib 0 640 = true then
    if ib (10 + (q1.2 8 1 (Int32.toNatClampNeg 0))) 640 = true then
    letw (wup q1.2 8 1 (Int32.toNatClampNeg (10 + (q1.2 8 1 (Int32.toNatClampNeg 0)))) 0) fun w2 =>
    if ib 0 640 = true then
    if ib (18 + (w2 8 1 (Int32.toNatClampNeg 0))) 640 = true then
    letw (wup w2 8 1 (Int32.toNatClampNeg (18 + (w2 8 1 (Int32.toNatClampNeg 0)))) 30) fun w3 =>
    if ib 0 640 = true then
    if ib 0 640 = true then
    letw (wup w3 8 1 (Int32.toNatClampNeg 0) ((w3 8 1 (Int32.toNatClampNeg 0)) + 1)) fun w4 =>
    if ib 0 640 = true then
    some ((w4 8 1 (Int32.toNatClampNeg 0)) - 1, w4)
    else none
    else none
    else none
    else none
    else none
    else none
    else none
  else none
set_option maxRecDepth 100000 in
set_option maxHeartbeats 4000000 in
theorem t_X10_addSwitch {l : Launch} {E : En} (w : Wd) : ∀ q, f_X10_addSwitch   w  = some q → Mt l E yX10_addSwitch cX10_addSwitch 1 (some .int) (rmk 2) [.ref (E.1 8 0)] w (eI q.1) q.2 := by
  refine Mt.of [some (.ref (E.1 8 0))] (plainFor_of_name pn_X10) rfl (Nat.le_of_ble_eq_true rfl) rfl ?_
  unfold f_X10_addSwitch
  refine gm_aload_n dX10_addSwitch_0 rfl rfl ?_
  refine gm_get dX10_addSwitch_1 ce_8_0 rfl inX10 0 (by decide) tb_944 rfl rfl ?_
  refine gm_iconst (v := 0) dX10_addSwitch_4 (by decide) ?_
  refine gm_iald dX10_addSwitch_5 ce_8_1 ?_
  refine gm_bipush (v := 8) dX10_addSwitch_6 (by decide) ?_
  refine gm_icmp_ne (tgt := 14) dX10_addSwitch_8 (by decide) ?_ ?_
  · refine gm_aload_n dX10_addSwitch_14 rfl rfl ?_
    refine gm_aload_n dX10_addSwitch_15 rfl rfl ?_
    refine gm_get dX10_addSwitch_16 ce_8_0 rfl inX10 0 (by decide) tb_944 rfl rfl ?_
    refine gm_callVv (As := [.ref (E.1 8 1)]) dX10_addSwitch_19 (t_X10_keeps 1 ce_8_1 w) ce_8_0 rfl cy_X10_keeps tb_1021 rfl rfl (rm_ok (by decide) (by decide)) (Nat.le_of_ble_eq_true rfl) (fun q1 => ?_)
    refine gm_aload_n dX10_addSwitch_22 rfl rfl ?_
    refine gm_get dX10_addSwitch_23 ce_8_0 rfl inX10 0 (by decide) tb_944 rfl rfl ?_
    refine gm_bipush (v := 10) dX10_addSwitch_26 (by decide) ?_
    refine gm_aload_n dX10_addSwitch_28 rfl rfl ?_
    refine gm_get dX10_addSwitch_29 ce_8_0 rfl inX10 0 (by decide) tb_944 rfl rfl ?_
    refine gm_iconst (v := 0) dX10_addSwitch_32 (by decide) ?_
    refine gm_iald dX10_addSwitch_33 ce_8_1 ?_
    refine gm_iadd dX10_addSwitch_34 ?_
    refine gm_iconst (v := 0) dX10_addSwitch_35 (by decide) ?_
    refine gm_iast dX10_addSwitch_36 ce_8_1 (fun w2 => ?_)
    refine gm_aload_n dX10_addSwitch_37 rfl rfl ?_
    refine gm_get dX10_addSwitch_38 ce_8_0 rfl inX10 0 (by decide) tb_944 rfl rfl ?_
    refine gm_bipush (v := 18) dX10_addSwitch_41 (by decide) ?_
    refine gm_aload_n dX10_addSwitch_43 rfl rfl ?_
    refine gm_get dX10_addSwitch_44 ce_8_0 rfl inX10 0 (by decide) tb_944 rfl rfl ?_
    refine gm_iconst (v := 0) dX10_addSwitch_47 (by decide) ?_
    refine gm_iald dX10_addSwitch_48 ce_8_1 ?_
    refine gm_iadd dX10_addSwitch_49 ?_
    refine gm_bipush (v := 30) dX10_addSwitch_50 (by decide) ?_
    refine gm_iast dX10_addSwitch_52 ce_8_1 (fun w3 => ?_)
    refine gm_aload_n dX10_addSwitch_53 rfl rfl ?_
    refine gm_get dX10_addSwitch_54 ce_8_0 rfl inX10 0 (by decide) tb_944 rfl rfl ?_
    refine gm_iconst (v := 0) dX10_addSwitch_57 (by decide) ?_
    refine gm_dup2 dX10_addSwitch_58 rfl rfl ?_
    refine gm_iald dX10_addSwitch_59 ce_8_1 ?_
    refine gm_iconst (v := 1) dX10_addSwitch_60 (by decide) ?_
    refine gm_iadd dX10_addSwitch_61 ?_
    refine gm_iast dX10_addSwitch_62 ce_8_1 (fun w4 => ?_)
    refine gm_aload_n dX10_addSwitch_63 rfl rfl ?_
    refine gm_get dX10_addSwitch_64 ce_8_0 rfl inX10 0 (by decide) tb_944 rfl rfl ?_
    refine gm_iconst (v := 0) dX10_addSwitch_67 (by decide) ?_
    refine gm_iald dX10_addSwitch_68 ce_8_1 ?_
    refine gm_iconst (v := 1) dX10_addSwitch_69 (by decide) ?_
    refine gm_isub dX10_addSwitch_70 ?_
    exact gm_iret dX10_addSwitch_71
  · refine gm_bipush (v := (-3)) dX10_addSwitch_11 (by decide) ?_
    exact gm_iret dX10_addSwitch_13

noncomputable def b_X10_portOf_2 (rc2 : Wd → Int32 → Int32 → Option (Int32 × Wd)) (w : Wd) (y1 : Int32) (y2 : Int32) : Option (Int32 × Wd) :=
  if ib 2 640 = true then
  if (w 8 1 (Int32.toNatClampNeg 2)) ≤ y2 then
    some ((-1), w)
  else
    if ib (350 + (2 * y2)) 640 = true then
    if (w 8 1 (Int32.toNatClampNeg (350 + (2 * y2)))) = y1 then
      some (y2, w)
    else
      rc2 w y1 (y2 + 1)
    else none
  else none
set_option maxRecDepth 100000 in
set_option maxHeartbeats 4000000 in
theorem kb_X10_portOf_2 {l : Launch} {E : En} (rc2 : Wd → Int32 → Int32 → Option (Int32 × Wd)) (hrc2 : ∀ (w : Wd) (y1 : Int32) (y2 : Int32), Gm l E cX10_portOf 3 RX10 (some .int) (rmk (1)) eI (rc2 w y1 y2) w 2 [some (.ref (E.1 8 0)), some (.int (y1)), some (.int (y2))] []) (w : Wd) (y1 : Int32) (y2 : Int32) : Gm l E cX10_portOf 3 RX10 (some .int) (rmk (1)) eI (b_X10_portOf_2   rc2 w y1 y2) w 2 [some (.ref (E.1 8 0)), some (.int (y1)), some (.int (y2))] [] := by
  unfold b_X10_portOf_2
  refine gm_iload_n dX10_portOf_2 rfl rfl ?_
  refine gm_aload_n dX10_portOf_3 rfl rfl ?_
  refine gm_get dX10_portOf_4 ce_8_0 rfl inX10 0 (by decide) tb_944 rfl rfl ?_
  refine gm_iconst (v := 2) dX10_portOf_7 (by decide) ?_
  refine gm_iald dX10_portOf_8 ce_8_1 ?_
  refine gm_icmp_ge (tgt := 36) dX10_portOf_9 (by decide) ?_ ?_
  · refine gm_iconst (v := (-1)) dX10_portOf_36 (by decide) ?_
    exact gm_iret dX10_portOf_37
  · refine gm_aload_n dX10_portOf_12 rfl rfl ?_
    refine gm_get dX10_portOf_13 ce_8_0 rfl inX10 0 (by decide) tb_944 rfl rfl ?_
    refine gm_sipush (v := 350) dX10_portOf_16 (by decide) ?_
    refine gm_iconst (v := 2) dX10_portOf_19 (by decide) ?_
    refine gm_iload_n dX10_portOf_20 rfl rfl ?_
    refine gm_imul dX10_portOf_21 ?_
    refine gm_iadd dX10_portOf_22 ?_
    refine gm_iald dX10_portOf_23 ce_8_1 ?_
    refine gm_iload_n dX10_portOf_24 rfl rfl ?_
    refine gm_icmp_ne (tgt := 30) dX10_portOf_25 (by decide) ?_ ?_
    · refine gm_iinc (v := 1) (lv' := [some (.ref (E.1 8 0)), some (.int (y1)), some (.int (y2 + 1))]) dX10_portOf_30 rfl (by decide) (by decide) rfl rfl ?_
      refine gm_goto (tgt := 2) dX10_portOf_33 (by decide) ?_
      exact gm_weak (lsub_s (lsub_s (lsub_s lsub_0))) (hrc2 w y1 (y2 + 1))
    · refine gm_iload_n dX10_portOf_28 rfl rfl ?_
      exact gm_iret dX10_portOf_29
noncomputable def h_X10_portOf_2 : Nat → (Wd → Int32 → Int32 → Option (Int32 × Wd))
  | 0 => fun _ _ _ => none
  | fu + 1 => b_X10_portOf_2    (h_X10_portOf_2    fu)
set_option maxRecDepth 100000 in
set_option maxHeartbeats 4000000 in
theorem k_X10_portOf_2 {l : Launch} {E : En} : ∀ (fu : Nat) (w : Wd) (y1 : Int32) (y2 : Int32), Gm l E cX10_portOf 3 RX10 (some .int) (rmk (1)) eI (h_X10_portOf_2    fu w y1 y2) w 2 [some (.ref (E.1 8 0)), some (.int (y1)), some (.int (y2))] []
  | 0, _, _, _ => gm_none
  | fu + 1, w, y1, y2 => kb_X10_portOf_2     (h_X10_portOf_2    fu)  (fun w y1 y2 => k_X10_portOf_2      fu w y1 y2) w y1 y2
noncomputable def f_X10_portOf (w : Wd) (x1 : Int32) : Option (Int32 × Wd) :=
  h_X10_portOf_2 FU w x1 0
set_option maxRecDepth 100000 in
set_option maxHeartbeats 4000000 in
theorem t_X10_portOf {l : Launch} {E : En} (w : Wd) (x1 : Int32) : ∀ q, f_X10_portOf   w x1 = some q → Mt l E yX10_portOf cX10_portOf 3 (some .int) (rmk 1) [.ref (E.1 8 0), .int (x1)] w (eI q.1) q.2 := by
  refine Mt.of [some (.ref (E.1 8 0)), some (.int (x1)), none] (plainFor_of_name pn_X10) rfl (Nat.le_of_ble_eq_true rfl) rfl ?_
  unfold f_X10_portOf
  refine gm_iconst (v := 0) dX10_portOf_0 (by decide) ?_
  refine gm_istore_n (lv' := [some (.ref (E.1 8 0)), some (.int (x1)), some (.int (0))]) dX10_portOf_1 rfl (by decide) rfl rfl ?_
  exact gm_weak (lsub_s (lsub_s (lsub_s lsub_0))) (k_X10_portOf_2 FU w x1 0)

noncomputable def b_X10_lengthOf_4 (rc4 : Wd → Int32 → Int32 → Option (Int32 × Wd)) (w : Wd) (y1 : Int32) (y2 : Int32) : Option (Int32 × Wd) :=
  if y2 ≤ 0 then
    some (y1, w)
  else
    leti (y2 / 10) fun u1 =>
    rc4 w (y1 + 1) u1
set_option maxRecDepth 100000 in
set_option maxHeartbeats 4000000 in
theorem kb_X10_lengthOf_4 {l : Launch} {E : En} (rc4 : Wd → Int32 → Int32 → Option (Int32 × Wd)) (hrc4 : ∀ (w : Wd) (y1 : Int32) (y2 : Int32), Gm l E cX10_lengthOf 3 RX10 (some .int) (rmk (1)) eI (rc4 w y1 y2) w 4 [none, some (.int (y1)), some (.int (y2))] []) (w : Wd) (y1 : Int32) (y2 : Int32) : Gm l E cX10_lengthOf 3 RX10 (some .int) (rmk (1)) eI (b_X10_lengthOf_4   rc4 w y1 y2) w 4 [none, some (.int (y1)), some (.int (y2))] [] := by
  unfold b_X10_lengthOf_4
  refine gm_iload_n dX10_lengthOf_4 rfl rfl ?_
  refine gm_if_le (tgt := 19) dX10_lengthOf_5 (by decide) ?_ ?_
  · refine gm_iload_n dX10_lengthOf_19 rfl rfl ?_
    exact gm_iret dX10_lengthOf_20
  · refine gm_iinc (v := 1) (lv' := [none, some (.int (y1 + 1)), some (.int (y2))]) dX10_lengthOf_8 rfl (by decide) (by decide) rfl rfl ?_
    refine gm_iload_n dX10_lengthOf_11 rfl rfl ?_
    refine gm_bipush (v := 10) dX10_lengthOf_12 (by decide) ?_
    refine gm_idiv dX10_lengthOf_14 (by decide) ?_
    refine gm_leti_st (fun u1 => ?_)
    refine gm_istore_n (lv' := [none, some (.int (y1 + 1)), some (.int (u1))]) dX10_lengthOf_15 rfl (by decide) rfl rfl ?_
    refine gm_goto (tgt := 4) dX10_lengthOf_16 (by decide) ?_
    exact gm_weak (lsub_n (lsub_s (lsub_s lsub_0))) (hrc4 w (y1 + 1) u1)
noncomputable def h_X10_lengthOf_4 : Nat → (Wd → Int32 → Int32 → Option (Int32 × Wd))
  | 0 => fun _ _ _ => none
  | fu + 1 => b_X10_lengthOf_4    (h_X10_lengthOf_4    fu)
set_option maxRecDepth 100000 in
set_option maxHeartbeats 4000000 in
theorem k_X10_lengthOf_4 {l : Launch} {E : En} : ∀ (fu : Nat) (w : Wd) (y1 : Int32) (y2 : Int32), Gm l E cX10_lengthOf 3 RX10 (some .int) (rmk (1)) eI (h_X10_lengthOf_4    fu w y1 y2) w 4 [none, some (.int (y1)), some (.int (y2))] []
  | 0, _, _, _ => gm_none
  | fu + 1, w, y1, y2 => kb_X10_lengthOf_4     (h_X10_lengthOf_4    fu)  (fun w y1 y2 => k_X10_lengthOf_4      fu w y1 y2) w y1 y2
noncomputable def f_X10_lengthOf (w : Wd) (x0 : Int32) : Option (Int32 × Wd) :=
  h_X10_lengthOf_4 FU w 0 x0
set_option maxRecDepth 100000 in
set_option maxHeartbeats 4000000 in
theorem t_X10_lengthOf {l : Launch} {E : En} (w : Wd) (x0 : Int32) : ∀ q, f_X10_lengthOf   w x0 = some q → Mt l E yX10_lengthOf cX10_lengthOf 3 (some .int) (rmk 1) [.int (x0)] w (eI q.1) q.2 := by
  refine Mt.of [some (.int (x0)), none, none] (plainFor_of_name pn_X10) rfl (Nat.le_of_ble_eq_true rfl) rfl ?_
  unfold f_X10_lengthOf
  refine gm_iconst (v := 0) dX10_lengthOf_0 (by decide) ?_
  refine gm_istore_n (lv' := [some (.int (x0)), some (.int (0)), none]) dX10_lengthOf_1 rfl (by decide) rfl rfl ?_
  refine gm_iload_n dX10_lengthOf_2 rfl rfl ?_
  refine gm_istore_n (lv' := [some (.int (x0)), some (.int (0)), some (.int (x0))]) dX10_lengthOf_3 rfl (by decide) rfl rfl ?_
  exact gm_weak (lsub_n (lsub_s (lsub_s lsub_0))) (k_X10_lengthOf_4 FU w 0 x0)

noncomputable def b_X10_spells_12 (rc12 : Wd → Int32 → Int32 → Int32 → Option (Unit × Wd)) (w : Wd) (y2 : Int32) (y3 : Int32) (y4 : Int32) : Option (Unit × Wd) :=
  if y4 < 0 then
    letw (wup w 8 0 5 ((w 8 0 5) + y2)) fun w3 =>
    some ((), w3)
  else
    if ib ((w 8 0 5) + y4) 14 = true then
    letw (wup w 8 4 (Int32.toNatClampNeg ((w 8 0 5) + y4)) (y3 - y3 / 10 * 10)) fun w4 =>
    leti (y3 / 10) fun u5 =>
    rc12 w4 y2 u5 (y4 + (-1))
    else none
set_option maxRecDepth 100000 in
set_option maxHeartbeats 4000000 in
theorem kb_X10_spells_12 {l : Launch} {E : En} (rc12 : Wd → Int32 → Int32 → Int32 → Option (Unit × Wd)) (hrc12 : ∀ (w : Wd) (y2 : Int32) (y3 : Int32) (y4 : Int32), Gm l E cX10_spells 5 RX10 none (rmk (2)) eV (rc12 w y2 y3 y4) w 12 [some (.ref (E.1 8 0)), none, some (.int (y2)), some (.int (y3)), some (.int (y4))] []) (w : Wd) (y2 : Int32) (y3 : Int32) (y4 : Int32) : Gm l E cX10_spells 5 RX10 none (rmk (2)) eV (b_X10_spells_12   rc12 w y2 y3 y4) w 12 [some (.ref (E.1 8 0)), none, some (.int (y2)), some (.int (y3)), some (.int (y4))] [] := by
  unfold b_X10_spells_12
  refine gm_iload dX10_spells_12 rfl ?_
  refine gm_if_lt (tgt := 44) dX10_spells_14 (by decide) ?_ ?_
  · refine gm_aload_n dX10_spells_44 rfl rfl ?_
    refine gm_dup dX10_spells_45 rfl ?_
    refine gm_get dX10_spells_46 ce_8_0 rfl inX10 5 (by decide) tb_949 rfl rfl ?_
    refine gm_iload_n dX10_spells_49 rfl rfl ?_
    refine gm_iadd dX10_spells_50 ?_
    refine gm_put dX10_spells_51 ce_8_0 rfl inX10 tyX10 tyX10_ok nmX10 5 (by decide) tb_949 rfl rfl (by decide +kernel) (fun _ => rfl) (fun _ => rfl) (fun w3 => ?_)
    exact gm_vret dX10_spells_54
  · refine gm_aload_n dX10_spells_17 rfl rfl ?_
    refine gm_get dX10_spells_18 ce_8_0 rfl inX10 4 (by decide) tb_948 rfl rfl ?_
    refine gm_aload_n dX10_spells_21 rfl rfl ?_
    refine gm_get dX10_spells_22 ce_8_0 rfl inX10 5 (by decide) tb_949 rfl rfl ?_
    refine gm_iload dX10_spells_25 rfl ?_
    refine gm_iadd dX10_spells_27 ?_
    refine gm_iload_n dX10_spells_28 rfl rfl ?_
    refine gm_bipush (v := 10) dX10_spells_29 (by decide) ?_
    refine gm_irem dX10_spells_31 (by decide) ?_
    refine gm_iast dX10_spells_32 ce_8_4 (fun w4 => ?_)
    refine gm_iload_n dX10_spells_33 rfl rfl ?_
    refine gm_bipush (v := 10) dX10_spells_34 (by decide) ?_
    refine gm_idiv dX10_spells_36 (by decide) ?_
    refine gm_leti_st (fun u5 => ?_)
    refine gm_istore_n (lv' := [some (.ref (E.1 8 0)), none, some (.int (y2)), some (.int (u5)), some (.int (y4))]) dX10_spells_37 rfl (by decide) rfl rfl ?_
    refine gm_iinc (v := (-1)) (lv' := [some (.ref (E.1 8 0)), none, some (.int (y2)), some (.int (u5)), some (.int (y4 + (-1)))]) dX10_spells_38 rfl (by decide) (by decide) rfl rfl ?_
    refine gm_goto (tgt := 12) dX10_spells_41 (by decide) ?_
    exact gm_weak (lsub_s (lsub_n (lsub_s (lsub_s (lsub_s lsub_0))))) (hrc12 w4 y2 u5 (y4 + (-1)))
noncomputable def h_X10_spells_12 : Nat → (Wd → Int32 → Int32 → Int32 → Option (Unit × Wd))
  | 0 => fun _ _ _ _ => none
  | fu + 1 => b_X10_spells_12    (h_X10_spells_12    fu)
set_option maxRecDepth 100000 in
set_option maxHeartbeats 4000000 in
theorem k_X10_spells_12 {l : Launch} {E : En} : ∀ (fu : Nat) (w : Wd) (y2 : Int32) (y3 : Int32) (y4 : Int32), Gm l E cX10_spells 5 RX10 none (rmk (2)) eV (h_X10_spells_12    fu w y2 y3 y4) w 12 [some (.ref (E.1 8 0)), none, some (.int (y2)), some (.int (y3)), some (.int (y4))] []
  | 0, _, _, _, _ => gm_none
  | fu + 1, w, y2, y3, y4 => kb_X10_spells_12     (h_X10_spells_12    fu)  (fun w y2 y3 y4 => k_X10_spells_12      fu w y2 y3 y4) w y2 y3 y4
noncomputable def f_X10_spells (w : Wd) (x1 : Int32) : Option (Unit × Wd) :=
  (f_X10_lengthOf w x1).bind fun q1 =>
  leti (q1.1 - 1) fun u2 =>
  h_X10_spells_12 FU q1.2 q1.1 x1 u2
set_option maxRecDepth 100000 in
set_option maxHeartbeats 4000000 in
theorem t_X10_spells {l : Launch} {E : En} (w : Wd) (x1 : Int32) : ∀ q, f_X10_spells   w x1 = some q → Mt l E yX10_spells cX10_spells 5 none (rmk 2) [.ref (E.1 8 0), .int (x1)] w (eV q.1) q.2 := by
  refine Mt.of [some (.ref (E.1 8 0)), some (.int (x1)), none, none, none] (plainFor_of_name pn_X10) rfl (Nat.le_of_ble_eq_true rfl) rfl ?_
  unfold f_X10_spells
  refine gm_iload_n dX10_spells_0 rfl rfl ?_
  refine gm_callSi (As := [.int (x1)]) dX10_spells_1 (t_X10_lengthOf w x1) cy_X10_lengthOf tb_1107 rfl rfl (rm_ok (by decide) (by decide)) (Nat.le_of_ble_eq_true rfl) (fun q1 => ?_)
  refine gm_istore_n (lv' := [some (.ref (E.1 8 0)), some (.int (x1)), some (.int (q1.1)), none, none]) dX10_spells_4 rfl (by decide) rfl rfl ?_
  refine gm_iload_n dX10_spells_5 rfl rfl ?_
  refine gm_istore_n (lv' := [some (.ref (E.1 8 0)), some (.int (x1)), some (.int (q1.1)), some (.int (x1)), none]) dX10_spells_6 rfl (by decide) rfl rfl ?_
  refine gm_iload_n dX10_spells_7 rfl rfl ?_
  refine gm_iconst (v := 1) dX10_spells_8 (by decide) ?_
  refine gm_isub dX10_spells_9 ?_
  refine gm_leti_st (fun u2 => ?_)
  refine gm_istore (lv' := [some (.ref (E.1 8 0)), some (.int (x1)), some (.int (q1.1)), some (.int (x1)), some (.int (u2))]) dX10_spells_10 (by decide) rfl rfl ?_
  exact gm_weak (lsub_s (lsub_n (lsub_s (lsub_s (lsub_s lsub_0))))) (k_X10_spells_12 FU q1.2 q1.1 x1 u2)

noncomputable def f_X10_dials (w : Wd) (x1 : Int32) (x2 : Int32) : Option (Unit × Wd) :=
  letw (wup w 8 0 5 0) fun w1 =>
  if x2 < 0 then
    (f_X10_spells w1 x1).bind fun q2 =>
    some ((), q2.2)
  else
    (f_X10_spells w1 990).bind fun q3 =>
    if ib ((q3.2) 8 0 5) 14 = true then
    letw (wup q3.2 8 4 (Int32.toNatClampNeg ((q3.2) 8 0 5)) x2) fun w4 =>
    letw (wup w4 8 0 5 ((w4 8 0 5) + 1)) fun w5 =>
    (f_X10_spells w5 x1).bind fun q6 =>
    some ((), q6.2)
    else none
set_option maxRecDepth 100000 in
set_option maxHeartbeats 4000000 in
theorem t_X10_dials {l : Launch} {E : En} (w : Wd) (x1 : Int32) (x2 : Int32) : ∀ q, f_X10_dials   w x1 x2 = some q → Mt l E yX10_dials cX10_dials 3 none (rmk 3) [.ref (E.1 8 0), .int (x1), .int (x2)] w (eV q.1) q.2 := by
  refine Mt.of [some (.ref (E.1 8 0)), some (.int (x1)), some (.int (x2))] (plainFor_of_name pn_X10) rfl (Nat.le_of_ble_eq_true rfl) rfl ?_
  unfold f_X10_dials
  refine gm_aload_n dX10_dials_0 rfl rfl ?_
  refine gm_iconst (v := 0) dX10_dials_1 (by decide) ?_
  refine gm_put dX10_dials_2 ce_8_0 rfl inX10 tyX10 tyX10_ok nmX10 5 (by decide) tb_949 rfl rfl (by decide +kernel) (fun _ => rfl) (fun _ => rfl) (fun w1 => ?_)
  refine gm_iload_n dX10_dials_5 rfl rfl ?_
  refine gm_if_lt (tgt := 36) dX10_dials_6 (by decide) ?_ ?_
  · refine gm_aload_n dX10_dials_36 rfl rfl ?_
    refine gm_iload_n dX10_dials_37 rfl rfl ?_
    refine gm_callVv (As := [.int (x1)]) dX10_dials_38 (t_X10_spells w1 x1) ce_8_0 rfl cy_X10_spells tb_1103 rfl rfl (rm_ok (by decide) (by decide)) (Nat.le_of_ble_eq_true rfl) (fun q2 => ?_)
    exact gm_vret dX10_dials_41
  · refine gm_aload_n dX10_dials_9 rfl rfl ?_
    refine gm_sipush (v := 990) dX10_dials_10 (by decide) ?_
    refine gm_callVv (As := [.int (990)]) dX10_dials_13 (t_X10_spells w1 990) ce_8_0 rfl cy_X10_spells tb_1103 rfl rfl (rm_ok (by decide) (by decide)) (Nat.le_of_ble_eq_true rfl) (fun q3 => ?_)
    refine gm_aload_n dX10_dials_16 rfl rfl ?_
    refine gm_get dX10_dials_17 ce_8_0 rfl inX10 4 (by decide) tb_948 rfl rfl ?_
    refine gm_aload_n dX10_dials_20 rfl rfl ?_
    refine gm_get dX10_dials_21 ce_8_0 rfl inX10 5 (by decide) tb_949 rfl rfl ?_
    refine gm_iload_n dX10_dials_24 rfl rfl ?_
    refine gm_iast dX10_dials_25 ce_8_4 (fun w4 => ?_)
    refine gm_aload_n dX10_dials_26 rfl rfl ?_
    refine gm_dup dX10_dials_27 rfl ?_
    refine gm_get dX10_dials_28 ce_8_0 rfl inX10 5 (by decide) tb_949 rfl rfl ?_
    refine gm_iconst (v := 1) dX10_dials_31 (by decide) ?_
    refine gm_iadd dX10_dials_32 ?_
    refine gm_put dX10_dials_33 ce_8_0 rfl inX10 tyX10 tyX10_ok nmX10 5 (by decide) tb_949 rfl rfl (by decide +kernel) (fun _ => rfl) (fun _ => rfl) (fun w5 => ?_)
    refine gm_aload_n dX10_dials_36 rfl rfl ?_
    refine gm_iload_n dX10_dials_37 rfl rfl ?_
    refine gm_callVv (As := [.int (x1)]) dX10_dials_38 (t_X10_spells w5 x1) ce_8_0 rfl cy_X10_spells tb_1103 rfl rfl (rm_ok (by decide) (by decide)) (Nat.le_of_ble_eq_true rfl) (fun q6 => ?_)
    exact gm_vret dX10_dials_41

noncomputable def f_X10_of (w : Wd) (x1 : Int32) (x2 : Int32) : Option (Int32 × Wd) :=
  if ib ((30 + (8 * x1)) + x2) 640 = true then
  some (w 8 1 (Int32.toNatClampNeg ((30 + (8 * x1)) + x2)), w)
  else none
set_option maxRecDepth 100000 in
set_option maxHeartbeats 4000000 in
theorem t_X10_of {l : Launch} {E : En} (w : Wd) (x1 : Int32) (x2 : Int32) : ∀ q, f_X10_of   w x1 x2 = some q → Mt l E yX10_of cX10_of 3 (some .int) (rmk 1) [.ref (E.1 8 0), .int (x1), .int (x2)] w (eI q.1) q.2 := by
  refine Mt.of [some (.ref (E.1 8 0)), some (.int (x1)), some (.int (x2))] (plainFor_of_name pn_X10) rfl (Nat.le_of_ble_eq_true rfl) rfl ?_
  unfold f_X10_of
  refine gm_aload_n dX10_of_0 rfl rfl ?_
  refine gm_get dX10_of_1 ce_8_0 rfl inX10 0 (by decide) tb_944 rfl rfl ?_
  refine gm_bipush (v := 30) dX10_of_4 (by decide) ?_
  refine gm_bipush (v := 8) dX10_of_6 (by decide) ?_
  refine gm_iload_n dX10_of_8 rfl rfl ?_
  refine gm_imul dX10_of_9 ?_
  refine gm_iadd dX10_of_10 ?_
  refine gm_iload_n dX10_of_11 rfl rfl ?_
  refine gm_iadd dX10_of_12 ?_
  refine gm_iald dX10_of_13 ce_8_1 ?_
  exact gm_iret dX10_of_14

noncomputable def b_X10_begins_27 (rc27 : Wd → Int32 → Int32 → Int32 → Option (Int32 × Wd)) (w : Wd) (y3 : Int32) (y4 : Int32) (y5 : Int32) : Option (Int32 × Wd) :=
  if y5 < 0 then
    if zb y4 = true then
    some (y4, w)
    else none
  else
    if y4 = 0 then
      if zb y4 = true then
      some (y4, w)
      else none
    else
      if ib y5 14 = true then
      if (w 8 4 (Int32.toNatClampNeg y5)) = (y3 - y3 / 10 * 10) then
        leti (y3 / 10) fun u4 =>
        rc27 w u4 1 (y5 + (-1))
      else
        leti (y3 / 10) fun u3 =>
        rc27 w u3 0 (y5 + (-1))
      else none
set_option maxRecDepth 100000 in
set_option maxHeartbeats 4000000 in
theorem kb_X10_begins_27 {l : Launch} {E : En} (rc27 : Wd → Int32 → Int32 → Int32 → Option (Int32 × Wd)) (hrc27 : ∀ (w : Wd) (y3 : Int32) (y4 : Int32) (y5 : Int32), Gm l E cX10_begins 6 RX10 (some .boolean) (rmk (2)) eI (rc27 w y3 y4 y5) w 27 [some (.ref (E.1 8 0)), none, none, some (.int (y3)), some (.int (y4)), some (.int (y5))] []) (w : Wd) (y3 : Int32) (y4 : Int32) (y5 : Int32) : Gm l E cX10_begins 6 RX10 (some .boolean) (rmk (2)) eI (b_X10_begins_27   rc27 w y3 y4 y5) w 27 [some (.ref (E.1 8 0)), none, none, some (.int (y3)), some (.int (y4)), some (.int (y5))] [] := by
  unfold b_X10_begins_27
  refine gm_iload dX10_begins_27 rfl ?_
  refine gm_if_lt (tgt := 69) dX10_begins_29 (by decide) ?_ ?_
  · refine gm_iload dX10_begins_69 rfl ?_
    exact gm_zret_g dX10_begins_71
  · refine gm_iload dX10_begins_32 rfl ?_
    refine gm_if_eq (tgt := 69) dX10_begins_34 (by decide) ?_ ?_
    · refine gm_iload dX10_begins_69 rfl ?_
      exact gm_zret_g dX10_begins_71
    · refine gm_aload_n dX10_begins_37 rfl rfl ?_
      refine gm_get dX10_begins_38 ce_8_0 rfl inX10 4 (by decide) tb_948 rfl rfl ?_
      refine gm_iload dX10_begins_41 rfl ?_
      refine gm_iald dX10_begins_43 ce_8_4 ?_
      refine gm_iload_n dX10_begins_44 rfl rfl ?_
      refine gm_bipush (v := 10) dX10_begins_45 (by decide) ?_
      refine gm_irem dX10_begins_47 (by decide) ?_
      refine gm_icmp_ne (tgt := 55) dX10_begins_48 (by decide) ?_ ?_
      · refine gm_iconst (v := 0) dX10_begins_55 (by decide) ?_
        refine gm_istore (lv' := [some (.ref (E.1 8 0)), none, none, some (.int (y3)), some (.int (0)), some (.int (y5))]) dX10_begins_56 (by decide) rfl rfl ?_
        refine gm_iload_n dX10_begins_58 rfl rfl ?_
        refine gm_bipush (v := 10) dX10_begins_59 (by decide) ?_
        refine gm_idiv dX10_begins_61 (by decide) ?_
        refine gm_leti_st (fun u3 => ?_)
        refine gm_istore_n (lv' := [some (.ref (E.1 8 0)), none, none, some (.int (u3)), some (.int (0)), some (.int (y5))]) dX10_begins_62 rfl (by decide) rfl rfl ?_
        refine gm_iinc (v := (-1)) (lv' := [some (.ref (E.1 8 0)), none, none, some (.int (u3)), some (.int (0)), some (.int (y5 + (-1)))]) dX10_begins_63 rfl (by decide) (by decide) rfl rfl ?_
        refine gm_goto (tgt := 27) dX10_begins_66 (by decide) ?_
        exact gm_weak (lsub_s (lsub_n (lsub_n (lsub_s (lsub_s (lsub_s lsub_0)))))) (hrc27 w u3 0 (y5 + (-1)))
      · refine gm_iconst (v := 1) dX10_begins_51 (by decide) ?_
        refine gm_goto (tgt := 56) dX10_begins_52 (by decide) ?_
        refine gm_istore (lv' := [some (.ref (E.1 8 0)), none, none, some (.int (y3)), some (.int (1)), some (.int (y5))]) dX10_begins_56 (by decide) rfl rfl ?_
        refine gm_iload_n dX10_begins_58 rfl rfl ?_
        refine gm_bipush (v := 10) dX10_begins_59 (by decide) ?_
        refine gm_idiv dX10_begins_61 (by decide) ?_
        refine gm_leti_st (fun u4 => ?_)
        refine gm_istore_n (lv' := [some (.ref (E.1 8 0)), none, none, some (.int (u4)), some (.int (1)), some (.int (y5))]) dX10_begins_62 rfl (by decide) rfl rfl ?_
        refine gm_iinc (v := (-1)) (lv' := [some (.ref (E.1 8 0)), none, none, some (.int (u4)), some (.int (1)), some (.int (y5 + (-1)))]) dX10_begins_63 rfl (by decide) (by decide) rfl rfl ?_
        refine gm_goto (tgt := 27) dX10_begins_66 (by decide) ?_
        exact gm_weak (lsub_s (lsub_n (lsub_n (lsub_s (lsub_s (lsub_s lsub_0)))))) (hrc27 w u4 1 (y5 + (-1)))
noncomputable def h_X10_begins_27 : Nat → (Wd → Int32 → Int32 → Int32 → Option (Int32 × Wd))
  | 0 => fun _ _ _ _ => none
  | fu + 1 => b_X10_begins_27    (h_X10_begins_27    fu)
set_option maxRecDepth 100000 in
set_option maxHeartbeats 4000000 in
theorem k_X10_begins_27 {l : Launch} {E : En} : ∀ (fu : Nat) (w : Wd) (y3 : Int32) (y4 : Int32) (y5 : Int32), Gm l E cX10_begins 6 RX10 (some .boolean) (rmk (2)) eI (h_X10_begins_27    fu w y3 y4 y5) w 27 [some (.ref (E.1 8 0)), none, none, some (.int (y3)), some (.int (y4)), some (.int (y5))] []
  | 0, _, _, _, _ => gm_none
  | fu + 1, w, y3, y4, y5 => kb_X10_begins_27     (h_X10_begins_27    fu)  (fun w y3 y4 y5 => k_X10_begins_27      fu w y3 y4 y5) w y3 y4 y5
noncomputable def f_X10_begins (w : Wd) (x1 : Int32) : Option (Int32 × Wd) :=
  (f_X10_lengthOf w x1).bind fun q1 =>
  if ((q1.2) 8 0 5) < q1.1 then
    leti (q1.1 - 1) fun u2 =>
    h_X10_begins_27 FU q1.2 x1 0 u2
  else
    leti (q1.1 - 1) fun u5 =>
    h_X10_begins_27 FU q1.2 x1 1 u5
set_option maxRecDepth 100000 in
set_option maxHeartbeats 4000000 in
theorem t_X10_begins {l : Launch} {E : En} (w : Wd) (x1 : Int32) : ∀ q, f_X10_begins   w x1 = some q → Mt l E yX10_begins cX10_begins 6 (some .boolean) (rmk 2) [.ref (E.1 8 0), .int (x1)] w (eI q.1) q.2 := by
  refine Mt.of [some (.ref (E.1 8 0)), some (.int (x1)), none, none, none, none] (plainFor_of_name pn_X10) rfl (Nat.le_of_ble_eq_true rfl) rfl ?_
  unfold f_X10_begins
  refine gm_iload_n dX10_begins_0 rfl rfl ?_
  refine gm_callSi (As := [.int (x1)]) dX10_begins_1 (t_X10_lengthOf w x1) cy_X10_lengthOf tb_1107 rfl rfl (rm_ok (by decide) (by decide)) (Nat.le_of_ble_eq_true rfl) (fun q1 => ?_)
  refine gm_istore_n (lv' := [some (.ref (E.1 8 0)), some (.int (x1)), some (.int (q1.1)), none, none, none]) dX10_begins_4 rfl (by decide) rfl rfl ?_
  refine gm_iload_n dX10_begins_5 rfl rfl ?_
  refine gm_istore_n (lv' := [some (.ref (E.1 8 0)), some (.int (x1)), some (.int (q1.1)), some (.int (x1)), none, none]) dX10_begins_6 rfl (by decide) rfl rfl ?_
  refine gm_iload_n dX10_begins_7 rfl rfl ?_
  refine gm_aload_n dX10_begins_8 rfl rfl ?_
  refine gm_get dX10_begins_9 ce_8_0 rfl inX10 5 (by decide) tb_949 rfl rfl ?_
  refine gm_icmp_gt (tgt := 19) dX10_begins_12 (by decide) ?_ ?_
  · refine gm_iconst (v := 0) dX10_begins_19 (by decide) ?_
    refine gm_istore (lv' := [some (.ref (E.1 8 0)), some (.int (x1)), some (.int (q1.1)), some (.int (x1)), some (.int (0)), none]) dX10_begins_20 (by decide) rfl rfl ?_
    refine gm_iload_n dX10_begins_22 rfl rfl ?_
    refine gm_iconst (v := 1) dX10_begins_23 (by decide) ?_
    refine gm_isub dX10_begins_24 ?_
    refine gm_leti_st (fun u2 => ?_)
    refine gm_istore (lv' := [some (.ref (E.1 8 0)), some (.int (x1)), some (.int (q1.1)), some (.int (x1)), some (.int (0)), some (.int (u2))]) dX10_begins_25 (by decide) rfl rfl ?_
    exact gm_weak (lsub_s (lsub_n (lsub_n (lsub_s (lsub_s (lsub_s lsub_0)))))) (k_X10_begins_27 FU q1.2 x1 0 u2)
  · refine gm_iconst (v := 1) dX10_begins_15 (by decide) ?_
    refine gm_goto (tgt := 20) dX10_begins_16 (by decide) ?_
    refine gm_istore (lv' := [some (.ref (E.1 8 0)), some (.int (x1)), some (.int (q1.1)), some (.int (x1)), some (.int (1)), none]) dX10_begins_20 (by decide) rfl rfl ?_
    refine gm_iload_n dX10_begins_22 rfl rfl ?_
    refine gm_iconst (v := 1) dX10_begins_23 (by decide) ?_
    refine gm_isub dX10_begins_24 ?_
    refine gm_leti_st (fun u5 => ?_)
    refine gm_istore (lv' := [some (.ref (E.1 8 0)), some (.int (x1)), some (.int (q1.1)), some (.int (x1)), some (.int (1)), some (.int (u5))]) dX10_begins_25 (by decide) rfl rfl ?_
    exact gm_weak (lsub_s (lsub_n (lsub_n (lsub_s (lsub_s (lsub_s lsub_0)))))) (k_X10_begins_27 FU q1.2 x1 1 u5)

noncomputable def f_X10_bandOf (w : Wd) (x1 : Int32) : Option (Int32 × Wd) :=
  leti (x1 - x1 / 10080 * 10080) fun u1 =>
  if u1 < 7200 then
    if (p_X10_in w (u1 - u1 / 1440 * 1440) 480 1199) = 0 then
      some (1, w)
    else
      some (0, w)
  else
    some (2, w)
set_option maxRecDepth 100000 in
set_option maxHeartbeats 4000000 in
theorem t_X10_bandOf {l : Launch} {E : En} (w : Wd) (x1 : Int32) : ∀ q, f_X10_bandOf   w x1 = some q → Mt l E yX10_bandOf cX10_bandOf 3 (some .int) (rmk 2) [.ref (E.1 8 0), .int (x1)] w (eI q.1) q.2 := by
  refine Mt.of [some (.ref (E.1 8 0)), some (.int (x1)), none] (plainFor_of_name pn_X10) rfl (Nat.le_of_ble_eq_true rfl) rfl ?_
  unfold f_X10_bandOf
  refine gm_iload_n dX10_bandOf_0 rfl rfl ?_
  refine gm_sipush (v := 10080) dX10_bandOf_1 (by decide) ?_
  refine gm_irem dX10_bandOf_4 (by decide) ?_
  refine gm_leti_st (fun u1 => ?_)
  refine gm_istore_n (lv' := [some (.ref (E.1 8 0)), some (.int (x1)), some (.int (u1))]) dX10_bandOf_5 rfl (by decide) rfl rfl ?_
  refine gm_iload_n dX10_bandOf_6 rfl rfl ?_
  refine gm_sipush (v := 7200) dX10_bandOf_7 (by decide) ?_
  refine gm_icmp_lt (tgt := 17) dX10_bandOf_10 (by decide) ?_ ?_
  · refine gm_iload_n dX10_bandOf_17 rfl rfl ?_
    refine gm_sipush (v := 1440) dX10_bandOf_18 (by decide) ?_
    refine gm_irem dX10_bandOf_21 (by decide) ?_
    refine gm_sipush (v := 480) dX10_bandOf_22 (by decide) ?_
    refine gm_sipush (v := 1199) dX10_bandOf_25 (by decide) ?_
    refine gm_callSk (As := [.int (u1 - u1 / 1440 * 1440), .int (480), .int (1199)]) dX10_bandOf_28 (tk_X10_in w (u1 - u1 / 1440 * 1440) 480 1199) cy_X10_in tb_1033 rfl rfl (rm_ok (by decide) (by decide)) (Nat.le_of_ble_eq_true rfl) ?_
    refine gm_if_eq (tgt := 38) dX10_bandOf_31 (by decide) ?_ ?_
    · refine gm_iconst (v := 1) dX10_bandOf_38 (by decide) ?_
      exact gm_iret dX10_bandOf_39
    · refine gm_iconst (v := 0) dX10_bandOf_34 (by decide) ?_
      refine gm_goto (tgt := 39) dX10_bandOf_35 (by decide) ?_
      exact gm_iret dX10_bandOf_39
  · refine gm_iconst (v := 2) dX10_bandOf_13 (by decide) ?_
    refine gm_goto (tgt := 39) dX10_bandOf_14 (by decide) ?_
    exact gm_iret dX10_bandOf_39
noncomputable def p_X10_bandOf (w : Wd) (x1 : Int32) : Int32 :=
  leti (x1 - x1 / 10080 * 10080) fun u1 =>
  if u1 < 7200 then
    if (p_X10_in w (u1 - u1 / 1440 * 1440) 480 1199) = 0 then
      1
    else
      0
  else
    2
theorem fp_X10_bandOf (w : Wd) (x1 : Int32) : f_X10_bandOf  w x1 = some (p_X10_bandOf  w x1, w) := by
  unfold f_X10_bandOf p_X10_bandOf
  (try simp only [leti, letl])
  repeat' (first | rfl | split)
theorem tk_X10_bandOf {l : Launch} {E : En} (w : Wd) (x1 : Int32) : Mt l E yX10_bandOf cX10_bandOf 3 (some .int) (rmk 2) [.ref (E.1 8 0), .int (x1)] w (some (.int (p_X10_bandOf  w x1))) w := t_X10_bandOf   w x1 _ (fp_X10_bandOf  w x1)

noncomputable def j_X10_gathers_207 (rc90 : Wd → Int32 → Int32 → Int32 → Int32 → Int32 → Int32 → Option (Int32 × Wd)) (w : Wd) (y1 : Int32) (y2 : Int32) (y3 : Int32) (y4 : Int32) (y5 : Int32) (y6 : Int32) (y7 : Int32) : Option (Int32 × Wd) :=
  if ib (y2 + y7) 320 = true then
  letw (wup w 8 7 (Int32.toNatClampNeg (y2 + y7)) y6) fun w7 =>
  rc90 w7 y1 y2 y3 y4 (y5 + 1) (y6 + 1)
  else none
set_option maxRecDepth 100000 in
set_option maxHeartbeats 4000000 in
theorem k_X10_gathers_207 {l : Launch} {E : En} (rc90 : Wd → Int32 → Int32 → Int32 → Int32 → Int32 → Int32 → Option (Int32 × Wd)) (hrc90 : ∀ (w : Wd) (y1 : Int32) (y2 : Int32) (y3 : Int32) (y4 : Int32) (y5 : Int32) (y6 : Int32), Gm l E cX10_gathers 8 RX10 (some .int) (rmk (3)) eI (rc90 w y1 y2 y3 y4 y5 y6) w 90 [some (.ref (E.1 8 0)), some (.int (y1)), some (.int (y2)), some (.int (y3)), some (.int (y4)), some (.int (y5)), some (.int (y6)), none] []) (w : Wd) (y1 : Int32) (y2 : Int32) (y3 : Int32) (y4 : Int32) (y5 : Int32) (y6 : Int32) (y7 : Int32) : Gm l E cX10_gathers 8 RX10 (some .int) (rmk (3)) eI (j_X10_gathers_207   rc90 w y1 y2 y3 y4 y5 y6 y7) w 207 [some (.ref (E.1 8 0)), some (.int (y1)), some (.int (y2)), some (.int (y3)), some (.int (y4)), some (.int (y5)), some (.int (y6)), some (.int (y7))] [] := by
  unfold j_X10_gathers_207
  refine gm_aload_n dX10_gathers_207 rfl rfl ?_
  refine gm_get dX10_gathers_208 ce_8_0 rfl inX10 8 (by decide) tb_952 rfl rfl ?_
  refine gm_iload_n dX10_gathers_211 rfl rfl ?_
  refine gm_iload dX10_gathers_212 rfl ?_
  refine gm_iadd dX10_gathers_214 ?_
  refine gm_iload dX10_gathers_215 rfl ?_
  refine gm_iast dX10_gathers_217 ce_8_7 (fun w7 => ?_)
  refine gm_iinc (v := 1) (lv' := [some (.ref (E.1 8 0)), some (.int (y1)), some (.int (y2)), some (.int (y3)), some (.int (y4)), some (.int (y5 + 1)), some (.int (y6)), some (.int (y7))]) dX10_gathers_218 rfl (by decide) (by decide) rfl rfl ?_
  refine gm_iinc (v := 1) (lv' := [some (.ref (E.1 8 0)), some (.int (y1)), some (.int (y2)), some (.int (y3)), some (.int (y4)), some (.int (y5 + 1)), some (.int (y6 + 1)), some (.int (y7))]) dX10_gathers_221 rfl (by decide) (by decide) rfl rfl ?_
  refine gm_goto (tgt := 90) dX10_gathers_224 (by decide) ?_
  exact gm_weak (lsub_s (lsub_s (lsub_s (lsub_s (lsub_s (lsub_s (lsub_s (lsub_n lsub_0)))))))) (hrc90 w7 y1 y2 y3 y4 (y5 + 1) (y6 + 1))
noncomputable def b_X10_gathers_144 (rc90 : Wd → Int32 → Int32 → Int32 → Int32 → Int32 → Int32 → Option (Int32 × Wd)) (rc144 : Wd → Int32 → Int32 → Int32 → Int32 → Int32 → Int32 → Int32 → Option (Int32 × Wd)) (w : Wd) (y1 : Int32) (y2 : Int32) (y3 : Int32) (y4 : Int32) (y5 : Int32) (y6 : Int32) (y7 : Int32) : Option (Int32 × Wd) :=
  if y7 ≤ 0 then
    j_X10_gathers_207 rc90 w y1 y2 y3 y4 y5 y6 y7
  else
    if ib ((y2 + y7) - 1) 320 = true then
    (f_X10_of w (w 8 7 (Int32.toNatClampNeg ((y2 + y7) - 1))) (3 + y4)).bind fun q8 =>
    (f_X10_of q8.2 y6 (3 + y4)).bind fun q9 =>
    if q8.1 ≤ q9.1 then
      j_X10_gathers_207 rc90 q9.2 y1 y2 y3 y4 y5 y6 y7
    else
      if ib ((y2 + y7) - 1) 320 = true then
      if ib (y2 + y7) 320 = true then
      letw (wup q9.2 8 7 (Int32.toNatClampNeg (y2 + y7)) (q9.2 8 7 (Int32.toNatClampNeg ((y2 + y7) - 1)))) fun w10 =>
      rc144 w10 y1 y2 y3 y4 y5 y6 (y7 + (-1))
      else none
      else none
    else none
set_option maxRecDepth 100000 in
set_option maxHeartbeats 4000000 in
theorem kb_X10_gathers_144 {l : Launch} {E : En} (rc90 : Wd → Int32 → Int32 → Int32 → Int32 → Int32 → Int32 → Option (Int32 × Wd)) (rc144 : Wd → Int32 → Int32 → Int32 → Int32 → Int32 → Int32 → Int32 → Option (Int32 × Wd)) (hrc90 : ∀ (w : Wd) (y1 : Int32) (y2 : Int32) (y3 : Int32) (y4 : Int32) (y5 : Int32) (y6 : Int32), Gm l E cX10_gathers 8 RX10 (some .int) (rmk (3)) eI (rc90 w y1 y2 y3 y4 y5 y6) w 90 [some (.ref (E.1 8 0)), some (.int (y1)), some (.int (y2)), some (.int (y3)), some (.int (y4)), some (.int (y5)), some (.int (y6)), none] []) (hrc144 : ∀ (w : Wd) (y1 : Int32) (y2 : Int32) (y3 : Int32) (y4 : Int32) (y5 : Int32) (y6 : Int32) (y7 : Int32), Gm l E cX10_gathers 8 RX10 (some .int) (rmk (3)) eI (rc144 w y1 y2 y3 y4 y5 y6 y7) w 144 [some (.ref (E.1 8 0)), some (.int (y1)), some (.int (y2)), some (.int (y3)), some (.int (y4)), some (.int (y5)), some (.int (y6)), some (.int (y7))] []) (w : Wd) (y1 : Int32) (y2 : Int32) (y3 : Int32) (y4 : Int32) (y5 : Int32) (y6 : Int32) (y7 : Int32) : Gm l E cX10_gathers 8 RX10 (some .int) (rmk (3)) eI (b_X10_gathers_144   rc90 rc144 w y1 y2 y3 y4 y5 y6 y7) w 144 [some (.ref (E.1 8 0)), some (.int (y1)), some (.int (y2)), some (.int (y3)), some (.int (y4)), some (.int (y5)), some (.int (y6)), some (.int (y7))] [] := by
  unfold b_X10_gathers_144
  refine gm_iload dX10_gathers_144 rfl ?_
  refine gm_if_le (tgt := 207) dX10_gathers_146 (by decide) ?_ ?_
  · exact gm_weak (lsub_s (lsub_s (lsub_s (lsub_s (lsub_s (lsub_s (lsub_s (lsub_s lsub_0)))))))) (k_X10_gathers_207 rc90 hrc90 w y1 y2 y3 y4 y5 y6 y7)
  · refine gm_aload_n dX10_gathers_149 rfl rfl ?_
    refine gm_aload_n dX10_gathers_150 rfl rfl ?_
    refine gm_get dX10_gathers_151 ce_8_0 rfl inX10 8 (by decide) tb_952 rfl rfl ?_
    refine gm_iload_n dX10_gathers_154 rfl rfl ?_
    refine gm_iload dX10_gathers_155 rfl ?_
    refine gm_iadd dX10_gathers_157 ?_
    refine gm_iconst (v := 1) dX10_gathers_158 (by decide) ?_
    refine gm_isub dX10_gathers_159 ?_
    refine gm_iald dX10_gathers_160 ce_8_7 ?_
    refine gm_iconst (v := 3) dX10_gathers_161 (by decide) ?_
    refine gm_iload dX10_gathers_162 rfl ?_
    refine gm_iadd dX10_gathers_164 ?_
    refine gm_callVi (As := [.int (w 8 7 (Int32.toNatClampNeg ((y2 + y7) - 1))), .int (3 + y4)]) dX10_gathers_165 (t_X10_of w (w 8 7 (Int32.toNatClampNeg ((y2 + y7) - 1))) (3 + y4)) ce_8_0 rfl cy_X10_of tb_1114 rfl rfl (rm_ok (by decide) (by decide)) (Nat.le_of_ble_eq_true rfl) (fun q8 => ?_)
    refine gm_aload_n dX10_gathers_168 rfl rfl ?_
    refine gm_iload dX10_gathers_169 rfl ?_
    refine gm_iconst (v := 3) dX10_gathers_171 (by decide) ?_
    refine gm_iload dX10_gathers_172 rfl ?_
    refine gm_iadd dX10_gathers_174 ?_
    refine gm_callVi (As := [.int (y6), .int (3 + y4)]) dX10_gathers_175 (t_X10_of q8.2 y6 (3 + y4)) ce_8_0 rfl cy_X10_of tb_1114 rfl rfl (rm_ok (by decide) (by decide)) (Nat.le_of_ble_eq_true rfl) (fun q9 => ?_)
    refine gm_icmp_le (tgt := 207) dX10_gathers_178 (by decide) ?_ ?_
    · exact gm_weak (lsub_s (lsub_s (lsub_s (lsub_s (lsub_s (lsub_s (lsub_s (lsub_s lsub_0)))))))) (k_X10_gathers_207 rc90 hrc90 q9.2 y1 y2 y3 y4 y5 y6 y7)
    · refine gm_aload_n dX10_gathers_181 rfl rfl ?_
      refine gm_get dX10_gathers_182 ce_8_0 rfl inX10 8 (by decide) tb_952 rfl rfl ?_
      refine gm_iload_n dX10_gathers_185 rfl rfl ?_
      refine gm_iload dX10_gathers_186 rfl ?_
      refine gm_iadd dX10_gathers_188 ?_
      refine gm_aload_n dX10_gathers_189 rfl rfl ?_
      refine gm_get dX10_gathers_190 ce_8_0 rfl inX10 8 (by decide) tb_952 rfl rfl ?_
      refine gm_iload_n dX10_gathers_193 rfl rfl ?_
      refine gm_iload dX10_gathers_194 rfl ?_
      refine gm_iadd dX10_gathers_196 ?_
      refine gm_iconst (v := 1) dX10_gathers_197 (by decide) ?_
      refine gm_isub dX10_gathers_198 ?_
      refine gm_iald dX10_gathers_199 ce_8_7 ?_
      refine gm_iast dX10_gathers_200 ce_8_7 (fun w10 => ?_)
      refine gm_iinc (v := (-1)) (lv' := [some (.ref (E.1 8 0)), some (.int (y1)), some (.int (y2)), some (.int (y3)), some (.int (y4)), some (.int (y5)), some (.int (y6)), some (.int (y7 + (-1)))]) dX10_gathers_201 rfl (by decide) (by decide) rfl rfl ?_
      refine gm_goto (tgt := 144) dX10_gathers_204 (by decide) ?_
      exact gm_weak (lsub_s (lsub_s (lsub_s (lsub_s (lsub_s (lsub_s (lsub_s (lsub_s lsub_0)))))))) (hrc144 w10 y1 y2 y3 y4 y5 y6 (y7 + (-1)))
noncomputable def h_X10_gathers_144 (rc90 : Wd → Int32 → Int32 → Int32 → Int32 → Int32 → Int32 → Option (Int32 × Wd)) : Nat → (Wd → Int32 → Int32 → Int32 → Int32 → Int32 → Int32 → Int32 → Option (Int32 × Wd))
  | 0 => fun _ _ _ _ _ _ _ _ => none
  | fu + 1 => b_X10_gathers_144   rc90 (h_X10_gathers_144   rc90 fu)
set_option maxRecDepth 100000 in
set_option maxHeartbeats 4000000 in
theorem k_X10_gathers_144 {l : Launch} {E : En} (rc90 : Wd → Int32 → Int32 → Int32 → Int32 → Int32 → Int32 → Option (Int32 × Wd)) (hrc90 : ∀ (w : Wd) (y1 : Int32) (y2 : Int32) (y3 : Int32) (y4 : Int32) (y5 : Int32) (y6 : Int32), Gm l E cX10_gathers 8 RX10 (some .int) (rmk (3)) eI (rc90 w y1 y2 y3 y4 y5 y6) w 90 [some (.ref (E.1 8 0)), some (.int (y1)), some (.int (y2)), some (.int (y3)), some (.int (y4)), some (.int (y5)), some (.int (y6)), none] []) : ∀ (fu : Nat) (w : Wd) (y1 : Int32) (y2 : Int32) (y3 : Int32) (y4 : Int32) (y5 : Int32) (y6 : Int32) (y7 : Int32), Gm l E cX10_gathers 8 RX10 (some .int) (rmk (3)) eI (h_X10_gathers_144   rc90 fu w y1 y2 y3 y4 y5 y6 y7) w 144 [some (.ref (E.1 8 0)), some (.int (y1)), some (.int (y2)), some (.int (y3)), some (.int (y4)), some (.int (y5)), some (.int (y6)), some (.int (y7))] []
  | 0, _, _, _, _, _, _, _, _ => gm_none
  | fu + 1, w, y1, y2, y3, y4, y5, y6, y7 => kb_X10_gathers_144    rc90 (h_X10_gathers_144   rc90 fu) hrc90 (fun w y1 y2 y3 y4 y5 y6 y7 => k_X10_gathers_144    rc90 hrc90 fu w y1 y2 y3 y4 y5 y6 y7) w y1 y2 y3 y4 y5 y6 y7
noncomputable def b_X10_gathers_90 (rc90 : Wd → Int32 → Int32 → Int32 → Int32 → Int32 → Int32 → Option (Int32 × Wd)) (w : Wd) (y1 : Int32) (y2 : Int32) (y3 : Int32) (y4 : Int32) (y5 : Int32) (y6 : Int32) : Option (Int32 × Wd) :=
  if ib 1 640 = true then
  if (w 8 1 (Int32.toNatClampNeg 1)) ≤ y6 then
    some (y5, w)
  else
    (f_X10_of w y6 0).bind fun q2 =>
    if q2.1 = y1 then
      (f_X10_of q2.2 y6 1).bind fun q3 =>
      (f_X10_begins q3.2 q3.1).bind fun q4 =>
      if q4.1 = 0 then
        rc90 q4.2 y1 y2 y3 y4 y5 (y6 + 1)
      else
        (f_X10_of q4.2 y6 1).bind fun q5 =>
        (f_X10_lengthOf q5.2 q5.1).bind fun q6 =>
        if q6.1 = y3 then
          h_X10_gathers_144 rc90 FU q6.2 y1 y2 y3 y4 y5 y6 y5
        else
          rc90 q6.2 y1 y2 y3 y4 y5 (y6 + 1)
    else
      rc90 q2.2 y1 y2 y3 y4 y5 (y6 + 1)
  else none
set_option maxRecDepth 100000 in
set_option maxHeartbeats 4000000 in
theorem kb_X10_gathers_90 {l : Launch} {E : En} (rc90 : Wd → Int32 → Int32 → Int32 → Int32 → Int32 → Int32 → Option (Int32 × Wd)) (hrc90 : ∀ (w : Wd) (y1 : Int32) (y2 : Int32) (y3 : Int32) (y4 : Int32) (y5 : Int32) (y6 : Int32), Gm l E cX10_gathers 8 RX10 (some .int) (rmk (3)) eI (rc90 w y1 y2 y3 y4 y5 y6) w 90 [some (.ref (E.1 8 0)), some (.int (y1)), some (.int (y2)), some (.int (y3)), some (.int (y4)), some (.int (y5)), some (.int (y6)), none] []) (w : Wd) (y1 : Int32) (y2 : Int32) (y3 : Int32) (y4 : Int32) (y5 : Int32) (y6 : Int32) : Gm l E cX10_gathers 8 RX10 (some .int) (rmk (3)) eI (b_X10_gathers_90   rc90 w y1 y2 y3 y4 y5 y6) w 90 [some (.ref (E.1 8 0)), some (.int (y1)), some (.int (y2)), some (.int (y3)), some (.int (y4)), some (.int (y5)), some (.int (y6)), none] [] := by
  unfold b_X10_gathers_90
  refine gm_iload dX10_gathers_90 rfl ?_
  refine gm_aload_n dX10_gathers_92 rfl rfl ?_
  refine gm_get dX10_gathers_93 ce_8_0 rfl inX10 0 (by decide) tb_944 rfl rfl ?_
  refine gm_iconst (v := 1) dX10_gathers_96 (by decide) ?_
  refine gm_iald dX10_gathers_97 ce_8_1 ?_
  refine gm_icmp_ge (tgt := 227) dX10_gathers_98 (by decide) ?_ ?_
  · refine gm_iload dX10_gathers_227 rfl ?_
    exact gm_iret dX10_gathers_229
  · refine gm_aload_n dX10_gathers_101 rfl rfl ?_
    refine gm_iload dX10_gathers_102 rfl ?_
    refine gm_iconst (v := 0) dX10_gathers_104 (by decide) ?_
    refine gm_callVi (As := [.int (y6), .int (0)]) dX10_gathers_105 (t_X10_of w y6 0) ce_8_0 rfl cy_X10_of tb_1114 rfl rfl (rm_ok (by decide) (by decide)) (Nat.le_of_ble_eq_true rfl) (fun q2 => ?_)
    refine gm_iload_n dX10_gathers_108 rfl rfl ?_
    refine gm_icmp_ne (tgt := 221) dX10_gathers_109 (by decide) ?_ ?_
    · refine gm_iinc (v := 1) (lv' := [some (.ref (E.1 8 0)), some (.int (y1)), some (.int (y2)), some (.int (y3)), some (.int (y4)), some (.int (y5)), some (.int (y6 + 1)), none]) dX10_gathers_221 rfl (by decide) (by decide) rfl rfl ?_
      refine gm_goto (tgt := 90) dX10_gathers_224 (by decide) ?_
      exact gm_weak (lsub_s (lsub_s (lsub_s (lsub_s (lsub_s (lsub_s (lsub_s (lsub_n lsub_0)))))))) (hrc90 q2.2 y1 y2 y3 y4 y5 (y6 + 1))
    · refine gm_aload_n dX10_gathers_112 rfl rfl ?_
      refine gm_aload_n dX10_gathers_113 rfl rfl ?_
      refine gm_iload dX10_gathers_114 rfl ?_
      refine gm_iconst (v := 1) dX10_gathers_116 (by decide) ?_
      refine gm_callVi (As := [.int (y6), .int (1)]) dX10_gathers_117 (t_X10_of q2.2 y6 1) ce_8_0 rfl cy_X10_of tb_1114 rfl rfl (rm_ok (by decide) (by decide)) (Nat.le_of_ble_eq_true rfl) (fun q3 => ?_)
      refine gm_callVi (As := [.int (q3.1)]) dX10_gathers_120 (t_X10_begins q3.2 q3.1) ce_8_0 rfl cy_X10_begins tb_1118 rfl rfl (rm_ok (by decide) (by decide)) (Nat.le_of_ble_eq_true rfl) (fun q4 => ?_)
      refine gm_if_eq (tgt := 221) dX10_gathers_123 (by decide) ?_ ?_
      · refine gm_iinc (v := 1) (lv' := [some (.ref (E.1 8 0)), some (.int (y1)), some (.int (y2)), some (.int (y3)), some (.int (y4)), some (.int (y5)), some (.int (y6 + 1)), none]) dX10_gathers_221 rfl (by decide) (by decide) rfl rfl ?_
        refine gm_goto (tgt := 90) dX10_gathers_224 (by decide) ?_
        exact gm_weak (lsub_s (lsub_s (lsub_s (lsub_s (lsub_s (lsub_s (lsub_s (lsub_n lsub_0)))))))) (hrc90 q4.2 y1 y2 y3 y4 y5 (y6 + 1))
      · refine gm_aload_n dX10_gathers_126 rfl rfl ?_
        refine gm_iload dX10_gathers_127 rfl ?_
        refine gm_iconst (v := 1) dX10_gathers_129 (by decide) ?_
        refine gm_callVi (As := [.int (y6), .int (1)]) dX10_gathers_130 (t_X10_of q4.2 y6 1) ce_8_0 rfl cy_X10_of tb_1114 rfl rfl (rm_ok (by decide) (by decide)) (Nat.le_of_ble_eq_true rfl) (fun q5 => ?_)
        refine gm_callSi (As := [.int (q5.1)]) dX10_gathers_133 (t_X10_lengthOf q5.2 q5.1) cy_X10_lengthOf tb_1107 rfl rfl (rm_ok (by decide) (by decide)) (Nat.le_of_ble_eq_true rfl) (fun q6 => ?_)
        refine gm_iload_n dX10_gathers_136 rfl rfl ?_
        refine gm_icmp_ne (tgt := 221) dX10_gathers_137 (by decide) ?_ ?_
        · refine gm_iinc (v := 1) (lv' := [some (.ref (E.1 8 0)), some (.int (y1)), some (.int (y2)), some (.int (y3)), some (.int (y4)), some (.int (y5)), some (.int (y6 + 1)), none]) dX10_gathers_221 rfl (by decide) (by decide) rfl rfl ?_
          refine gm_goto (tgt := 90) dX10_gathers_224 (by decide) ?_
          exact gm_weak (lsub_s (lsub_s (lsub_s (lsub_s (lsub_s (lsub_s (lsub_s (lsub_n lsub_0)))))))) (hrc90 q6.2 y1 y2 y3 y4 y5 (y6 + 1))
        · refine gm_iload dX10_gathers_140 rfl ?_
          refine gm_istore (lv' := [some (.ref (E.1 8 0)), some (.int (y1)), some (.int (y2)), some (.int (y3)), some (.int (y4)), some (.int (y5)), some (.int (y6)), some (.int (y5))]) dX10_gathers_142 (by decide) rfl rfl ?_
          exact gm_weak (lsub_s (lsub_s (lsub_s (lsub_s (lsub_s (lsub_s (lsub_s (lsub_s lsub_0)))))))) (k_X10_gathers_144 rc90 hrc90 FU q6.2 y1 y2 y3 y4 y5 y6 y5)
noncomputable def h_X10_gathers_90 : Nat → (Wd → Int32 → Int32 → Int32 → Int32 → Int32 → Int32 → Option (Int32 × Wd))
  | 0 => fun _ _ _ _ _ _ _ => none
  | fu + 1 => b_X10_gathers_90    (h_X10_gathers_90    fu)
set_option maxRecDepth 100000 in
set_option maxHeartbeats 4000000 in
theorem k_X10_gathers_90 {l : Launch} {E : En} : ∀ (fu : Nat) (w : Wd) (y1 : Int32) (y2 : Int32) (y3 : Int32) (y4 : Int32) (y5 : Int32) (y6 : Int32), Gm l E cX10_gathers 8 RX10 (some .int) (rmk (3)) eI (h_X10_gathers_90    fu w y1 y2 y3 y4 y5 y6) w 90 [some (.ref (E.1 8 0)), some (.int (y1)), some (.int (y2)), some (.int (y3)), some (.int (y4)), some (.int (y5)), some (.int (y6)), none] []
  | 0, _, _, _, _, _, _, _ => gm_none
  | fu + 1, w, y1, y2, y3, y4, y5, y6 => kb_X10_gathers_90     (h_X10_gathers_90    fu)  (fun w y1 y2 y3 y4 y5 y6 => k_X10_gathers_90      fu w y1 y2 y3 y4 y5 y6) w y1 y2 y3 y4 y5 y6
noncomputable def b_X10_gathers_5 (rc5 : Wd → Int32 → Int32 → Int32 → Int32 → Option (Int32 × Wd)) (w : Wd) (y1 : Int32) (y2 : Int32) (y3 : Int32) (y4 : Int32) : Option (Int32 × Wd) :=
  if ib 1 640 = true then
  if (w 8 1 (Int32.toNatClampNeg 1)) ≤ y4 then
    if ib 4 640 = true then
    leti (p_X10_bandOf w (w 8 1 (Int32.toNatClampNeg 4))) fun u1 =>
    h_X10_gathers_90 FU w y1 y2 y3 u1 0 0
    else none
  else
    (f_X10_of w y4 1).bind fun q11 =>
    (f_X10_lengthOf q11.2 q11.1).bind fun q12 =>
    (f_X10_of q12.2 y4 0).bind fun q13 =>
    if q13.1 = y1 then
      (f_X10_of q13.2 y4 1).bind fun q14 =>
      (f_X10_begins q14.2 q14.1).bind fun q15 =>
      if q15.1 = 0 then
        rc5 q15.2 y1 y2 y3 (y4 + 1)
      else
        if q12.1 ≤ y3 then
          rc5 q15.2 y1 y2 y3 (y4 + 1)
        else
          rc5 q15.2 y1 y2 q12.1 (y4 + 1)
    else
      rc5 q13.2 y1 y2 y3 (y4 + 1)
  else none
set_option maxRecDepth 100000 in
set_option maxHeartbeats 4000000 in
theorem kb_X10_gathers_5 {l : Launch} {E : En} (rc5 : Wd → Int32 → Int32 → Int32 → Int32 → Option (Int32 × Wd)) (hrc5 : ∀ (w : Wd) (y1 : Int32) (y2 : Int32) (y3 : Int32) (y4 : Int32), Gm l E cX10_gathers 8 RX10 (some .int) (rmk (3)) eI (rc5 w y1 y2 y3 y4) w 5 [some (.ref (E.1 8 0)), some (.int (y1)), some (.int (y2)), some (.int (y3)), some (.int (y4)), none, none, none] []) (w : Wd) (y1 : Int32) (y2 : Int32) (y3 : Int32) (y4 : Int32) : Gm l E cX10_gathers 8 RX10 (some .int) (rmk (3)) eI (b_X10_gathers_5   rc5 w y1 y2 y3 y4) w 5 [some (.ref (E.1 8 0)), some (.int (y1)), some (.int (y2)), some (.int (y3)), some (.int (y4)), none, none, none] [] := by
  unfold b_X10_gathers_5
  refine gm_iload dX10_gathers_5 rfl ?_
  refine gm_aload_n dX10_gathers_7 rfl rfl ?_
  refine gm_get dX10_gathers_8 ce_8_0 rfl inX10 0 (by decide) tb_944 rfl rfl ?_
  refine gm_iconst (v := 1) dX10_gathers_11 (by decide) ?_
  refine gm_iald dX10_gathers_12 ce_8_1 ?_
  refine gm_icmp_ge (tgt := 72) dX10_gathers_13 (by decide) ?_ ?_
  · refine gm_aload_n dX10_gathers_72 rfl rfl ?_
    refine gm_aload_n dX10_gathers_73 rfl rfl ?_
    refine gm_get dX10_gathers_74 ce_8_0 rfl inX10 0 (by decide) tb_944 rfl rfl ?_
    refine gm_iconst (v := 4) dX10_gathers_77 (by decide) ?_
    refine gm_iald dX10_gathers_78 ce_8_1 ?_
    refine gm_callVk (As := [.int (w 8 1 (Int32.toNatClampNeg 4))]) dX10_gathers_79 (tk_X10_bandOf w (w 8 1 (Int32.toNatClampNeg 4))) ce_8_0 rfl cy_X10_bandOf tb_1122 rfl rfl (rm_ok (by decide) (by decide)) (Nat.le_of_ble_eq_true rfl) ?_
    refine gm_leti_st (fun u1 => ?_)
    refine gm_istore (lv' := [some (.ref (E.1 8 0)), some (.int (y1)), some (.int (y2)), some (.int (y3)), some (.int (u1)), none, none, none]) dX10_gathers_82 (by decide) rfl rfl ?_
    refine gm_iconst (v := 0) dX10_gathers_84 (by decide) ?_
    refine gm_istore (lv' := [some (.ref (E.1 8 0)), some (.int (y1)), some (.int (y2)), some (.int (y3)), some (.int (u1)), some (.int (0)), none, none]) dX10_gathers_85 (by decide) rfl rfl ?_
    refine gm_iconst (v := 0) dX10_gathers_87 (by decide) ?_
    refine gm_istore (lv' := [some (.ref (E.1 8 0)), some (.int (y1)), some (.int (y2)), some (.int (y3)), some (.int (u1)), some (.int (0)), some (.int (0)), none]) dX10_gathers_88 (by decide) rfl rfl ?_
    exact gm_weak (lsub_s (lsub_s (lsub_s (lsub_s (lsub_s (lsub_s (lsub_s (lsub_n lsub_0)))))))) (k_X10_gathers_90 FU w y1 y2 y3 u1 0 0)
  · refine gm_aload_n dX10_gathers_16 rfl rfl ?_
    refine gm_iload dX10_gathers_17 rfl ?_
    refine gm_iconst (v := 1) dX10_gathers_19 (by decide) ?_
    refine gm_callVi (As := [.int (y4), .int (1)]) dX10_gathers_20 (t_X10_of w y4 1) ce_8_0 rfl cy_X10_of tb_1114 rfl rfl (rm_ok (by decide) (by decide)) (Nat.le_of_ble_eq_true rfl) (fun q11 => ?_)
    refine gm_callSi (As := [.int (q11.1)]) dX10_gathers_23 (t_X10_lengthOf q11.2 q11.1) cy_X10_lengthOf tb_1107 rfl rfl (rm_ok (by decide) (by decide)) (Nat.le_of_ble_eq_true rfl) (fun q12 => ?_)
    refine gm_istore (lv' := [some (.ref (E.1 8 0)), some (.int (y1)), some (.int (y2)), some (.int (y3)), some (.int (y4)), some (.int (q12.1)), none, none]) dX10_gathers_26 (by decide) rfl rfl ?_
    refine gm_aload_n dX10_gathers_28 rfl rfl ?_
    refine gm_iload dX10_gathers_29 rfl ?_
    refine gm_iconst (v := 0) dX10_gathers_31 (by decide) ?_
    refine gm_callVi (As := [.int (y4), .int (0)]) dX10_gathers_32 (t_X10_of q12.2 y4 0) ce_8_0 rfl cy_X10_of tb_1114 rfl rfl (rm_ok (by decide) (by decide)) (Nat.le_of_ble_eq_true rfl) (fun q13 => ?_)
    refine gm_iload_n dX10_gathers_35 rfl rfl ?_
    refine gm_icmp_ne (tgt := 64) dX10_gathers_36 (by decide) ?_ ?_
    · refine gm_iload_n dX10_gathers_64 rfl rfl ?_
      refine gm_istore_n (lv' := [some (.ref (E.1 8 0)), some (.int (y1)), some (.int (y2)), some (.int (y3)), some (.int (y4)), some (.int (q12.1)), none, none]) dX10_gathers_65 rfl (by decide) rfl rfl ?_
      refine gm_iinc (v := 1) (lv' := [some (.ref (E.1 8 0)), some (.int (y1)), some (.int (y2)), some (.int (y3)), some (.int (y4 + 1)), some (.int (q12.1)), none, none]) dX10_gathers_66 rfl (by decide) (by decide) rfl rfl ?_
      refine gm_goto (tgt := 5) dX10_gathers_69 (by decide) ?_
      exact gm_weak (lsub_s (lsub_s (lsub_s (lsub_s (lsub_s (lsub_n (lsub_n (lsub_n lsub_0)))))))) (hrc5 q13.2 y1 y2 y3 (y4 + 1))
    · refine gm_aload_n dX10_gathers_39 rfl rfl ?_
      refine gm_aload_n dX10_gathers_40 rfl rfl ?_
      refine gm_iload dX10_gathers_41 rfl ?_
      refine gm_iconst (v := 1) dX10_gathers_43 (by decide) ?_
      refine gm_callVi (As := [.int (y4), .int (1)]) dX10_gathers_44 (t_X10_of q13.2 y4 1) ce_8_0 rfl cy_X10_of tb_1114 rfl rfl (rm_ok (by decide) (by decide)) (Nat.le_of_ble_eq_true rfl) (fun q14 => ?_)
      refine gm_callVi (As := [.int (q14.1)]) dX10_gathers_47 (t_X10_begins q14.2 q14.1) ce_8_0 rfl cy_X10_begins tb_1118 rfl rfl (rm_ok (by decide) (by decide)) (Nat.le_of_ble_eq_true rfl) (fun q15 => ?_)
      refine gm_if_eq (tgt := 64) dX10_gathers_50 (by decide) ?_ ?_
      · refine gm_iload_n dX10_gathers_64 rfl rfl ?_
        refine gm_istore_n (lv' := [some (.ref (E.1 8 0)), some (.int (y1)), some (.int (y2)), some (.int (y3)), some (.int (y4)), some (.int (q12.1)), none, none]) dX10_gathers_65 rfl (by decide) rfl rfl ?_
        refine gm_iinc (v := 1) (lv' := [some (.ref (E.1 8 0)), some (.int (y1)), some (.int (y2)), some (.int (y3)), some (.int (y4 + 1)), some (.int (q12.1)), none, none]) dX10_gathers_66 rfl (by decide) (by decide) rfl rfl ?_
        refine gm_goto (tgt := 5) dX10_gathers_69 (by decide) ?_
        exact gm_weak (lsub_s (lsub_s (lsub_s (lsub_s (lsub_s (lsub_n (lsub_n (lsub_n lsub_0)))))))) (hrc5 q15.2 y1 y2 y3 (y4 + 1))
      · refine gm_iload dX10_gathers_53 rfl ?_
        refine gm_iload_n dX10_gathers_55 rfl rfl ?_
        refine gm_icmp_le (tgt := 64) dX10_gathers_56 (by decide) ?_ ?_
        · refine gm_iload_n dX10_gathers_64 rfl rfl ?_
          refine gm_istore_n (lv' := [some (.ref (E.1 8 0)), some (.int (y1)), some (.int (y2)), some (.int (y3)), some (.int (y4)), some (.int (q12.1)), none, none]) dX10_gathers_65 rfl (by decide) rfl rfl ?_
          refine gm_iinc (v := 1) (lv' := [some (.ref (E.1 8 0)), some (.int (y1)), some (.int (y2)), some (.int (y3)), some (.int (y4 + 1)), some (.int (q12.1)), none, none]) dX10_gathers_66 rfl (by decide) (by decide) rfl rfl ?_
          refine gm_goto (tgt := 5) dX10_gathers_69 (by decide) ?_
          exact gm_weak (lsub_s (lsub_s (lsub_s (lsub_s (lsub_s (lsub_n (lsub_n (lsub_n lsub_0)))))))) (hrc5 q15.2 y1 y2 y3 (y4 + 1))
        · refine gm_iload dX10_gathers_59 rfl ?_
          refine gm_goto (tgt := 65) dX10_gathers_61 (by decide) ?_
          refine gm_istore_n (lv' := [some (.ref (E.1 8 0)), some (.int (y1)), some (.int (y2)), some (.int (q12.1)), some (.int (y4)), some (.int (q12.1)), none, none]) dX10_gathers_65 rfl (by decide) rfl rfl ?_
          refine gm_iinc (v := 1) (lv' := [some (.ref (E.1 8 0)), some (.int (y1)), some (.int (y2)), some (.int (q12.1)), some (.int (y4 + 1)), some (.int (q12.1)), none, none]) dX10_gathers_66 rfl (by decide) (by decide) rfl rfl ?_
          refine gm_goto (tgt := 5) dX10_gathers_69 (by decide) ?_
          exact gm_weak (lsub_s (lsub_s (lsub_s (lsub_s (lsub_s (lsub_n (lsub_n (lsub_n lsub_0)))))))) (hrc5 q15.2 y1 y2 q12.1 (y4 + 1))
noncomputable def h_X10_gathers_5 : Nat → (Wd → Int32 → Int32 → Int32 → Int32 → Option (Int32 × Wd))
  | 0 => fun _ _ _ _ _ => none
  | fu + 1 => b_X10_gathers_5    (h_X10_gathers_5    fu)
set_option maxRecDepth 100000 in
set_option maxHeartbeats 4000000 in
theorem k_X10_gathers_5 {l : Launch} {E : En} : ∀ (fu : Nat) (w : Wd) (y1 : Int32) (y2 : Int32) (y3 : Int32) (y4 : Int32), Gm l E cX10_gathers 8 RX10 (some .int) (rmk (3)) eI (h_X10_gathers_5    fu w y1 y2 y3 y4) w 5 [some (.ref (E.1 8 0)), some (.int (y1)), some (.int (y2)), some (.int (y3)), some (.int (y4)), none, none, none] []
  | 0, _, _, _, _, _ => gm_none
  | fu + 1, w, y1, y2, y3, y4 => kb_X10_gathers_5     (h_X10_gathers_5    fu)  (fun w y1 y2 y3 y4 => k_X10_gathers_5      fu w y1 y2 y3 y4) w y1 y2 y3 y4
noncomputable def f_X10_gathers (w : Wd) (x1 : Int32) (x2 : Int32) : Option (Int32 × Wd) :=
  h_X10_gathers_5 FU w x1 x2 (-1) 0
set_option maxRecDepth 100000 in
set_option maxHeartbeats 4000000 in
theorem t_X10_gathers {l : Launch} {E : En} (w : Wd) (x1 : Int32) (x2 : Int32) : ∀ q, f_X10_gathers   w x1 x2 = some q → Mt l E yX10_gathers cX10_gathers 8 (some .int) (rmk 3) [.ref (E.1 8 0), .int (x1), .int (x2)] w (eI q.1) q.2 := by
  refine Mt.of [some (.ref (E.1 8 0)), some (.int (x1)), some (.int (x2)), none, none, none, none, none] (plainFor_of_name pn_X10) rfl (Nat.le_of_ble_eq_true rfl) rfl ?_
  unfold f_X10_gathers
  refine gm_iconst (v := (-1)) dX10_gathers_0 (by decide) ?_
  refine gm_istore_n (lv' := [some (.ref (E.1 8 0)), some (.int (x1)), some (.int (x2)), some (.int ((-1))), none, none, none, none]) dX10_gathers_1 rfl (by decide) rfl rfl ?_
  refine gm_iconst (v := 0) dX10_gathers_2 (by decide) ?_
  refine gm_istore (lv' := [some (.ref (E.1 8 0)), some (.int (x1)), some (.int (x2)), some (.int ((-1))), some (.int (0)), none, none, none]) dX10_gathers_3 (by decide) rfl rfl ?_
  exact gm_weak (lsub_s (lsub_s (lsub_s (lsub_s (lsub_s (lsub_n (lsub_n (lsub_n lsub_0)))))))) (k_X10_gathers_5 FU w x1 x2 (-1) 0)

noncomputable def j_X10_arrives_100 (w : Wd) (y1 : Int32) (y2 : Int32) (y4 : Int32) (y5 : Int32) : Option (Int32 × Wd) :=
  if y5 = y1 then
    some (0, w)
  else
    (f_X10_dials w y2 y5).bind fun q3 =>
    (f_X10_gathers q3.2 y1 (40 * y4)).bind fun q4 =>
    if q4.1 = 0 then
      some (1, q4.2)
    else
      letw (wup q4.2 8 0 12 y4) fun w5 =>
      if ib y4 8 = true then
      letw (wup w5 8 5 (Int32.toNatClampNeg y4) y1) fun w6 =>
      if ib y4 8 = true then
      letw (wup w6 8 6 (Int32.toNatClampNeg y4) y5) fun w7 =>
      if ib y4 8 = true then
      letw (wup w7 8 8 (Int32.toNatClampNeg y4) q4.1) fun w8 =>
      if ib y4 8 = true then
      letw (wup w8 8 9 (Int32.toNatClampNeg y4) 0) fun w9 =>
      some ((-1), w9)
      else none
      else none
      else none
      else none
set_option maxRecDepth 100000 in
set_option maxHeartbeats 4000000 in
theorem k_X10_arrives_100 {l : Launch} {E : En} (w : Wd) (y1 : Int32) (y2 : Int32) (y4 : Int32) (y5 : Int32) : Gm l E cX10_arrives 8 RX10 (some .int) (rmk (4)) eI (j_X10_arrives_100    w y1 y2 y4 y5) w 100 [some (.ref (E.1 8 0)), some (.int (y1)), some (.int (y2)), none, some (.int (y4)), some (.int (y5)), none, none] [] := by
  unfold j_X10_arrives_100
  refine gm_iload dX10_arrives_100 rfl ?_
  refine gm_iload_n dX10_arrives_102 rfl rfl ?_
  refine gm_icmp_ne (tgt := 108) dX10_arrives_103 (by decide) ?_ ?_
  · refine gm_aload_n dX10_arrives_108 rfl rfl ?_
    refine gm_iload_n dX10_arrives_109 rfl rfl ?_
    refine gm_iload dX10_arrives_110 rfl ?_
    refine gm_callVv (As := [.int (y2), .int (y5)]) dX10_arrives_112 (t_X10_dials w y2 y5) ce_8_0 rfl cy_X10_dials tb_1099 rfl rfl (rm_ok (by decide) (by decide)) (Nat.le_of_ble_eq_true rfl) (fun q3 => ?_)
    refine gm_aload_n dX10_arrives_115 rfl rfl ?_
    refine gm_iload_n dX10_arrives_116 rfl rfl ?_
    refine gm_bipush (v := 40) dX10_arrives_117 (by decide) ?_
    refine gm_iload dX10_arrives_119 rfl ?_
    refine gm_imul dX10_arrives_121 ?_
    refine gm_callVi (As := [.int (y1), .int (40 * y4)]) dX10_arrives_122 (t_X10_gathers q3.2 y1 (40 * y4)) ce_8_0 rfl cy_X10_gathers tb_1110 rfl rfl (rm_ok (by decide) (by decide)) (Nat.le_of_ble_eq_true rfl) (fun q4 => ?_)
    refine gm_istore (lv' := [some (.ref (E.1 8 0)), some (.int (y1)), some (.int (y2)), none, some (.int (y4)), some (.int (y5)), none, some (.int (q4.1))]) dX10_arrives_125 (by decide) rfl rfl ?_
    refine gm_iload dX10_arrives_127 rfl ?_
    refine gm_if_ne (tgt := 134) dX10_arrives_129 (by decide) ?_ ?_
    · refine gm_aload_n dX10_arrives_134 rfl rfl ?_
      refine gm_iload dX10_arrives_135 rfl ?_
      refine gm_put dX10_arrives_137 ce_8_0 rfl inX10 tyX10 tyX10_ok nmX10 12 (by decide) tb_956 rfl rfl (by decide +kernel) (fun _ => rfl) (fun _ => rfl) (fun w5 => ?_)
      refine gm_aload_n dX10_arrives_140 rfl rfl ?_
      refine gm_get dX10_arrives_141 ce_8_0 rfl inX10 6 (by decide) tb_950 rfl rfl ?_
      refine gm_iload dX10_arrives_144 rfl ?_
      refine gm_iload_n dX10_arrives_146 rfl rfl ?_
      refine gm_iast dX10_arrives_147 ce_8_5 (fun w6 => ?_)
      refine gm_aload_n dX10_arrives_148 rfl rfl ?_
      refine gm_get dX10_arrives_149 ce_8_0 rfl inX10 7 (by decide) tb_951 rfl rfl ?_
      refine gm_iload dX10_arrives_152 rfl ?_
      refine gm_iload dX10_arrives_154 rfl ?_
      refine gm_iast dX10_arrives_156 ce_8_6 (fun w7 => ?_)
      refine gm_aload_n dX10_arrives_157 rfl rfl ?_
      refine gm_get dX10_arrives_158 ce_8_0 rfl inX10 9 (by decide) tb_953 rfl rfl ?_
      refine gm_iload dX10_arrives_161 rfl ?_
      refine gm_iload dX10_arrives_163 rfl ?_
      refine gm_iast dX10_arrives_165 ce_8_8 (fun w8 => ?_)
      refine gm_aload_n dX10_arrives_166 rfl rfl ?_
      refine gm_get dX10_arrives_167 ce_8_0 rfl inX10 10 (by decide) tb_954 rfl rfl ?_
      refine gm_iload dX10_arrives_170 rfl ?_
      refine gm_iconst (v := 0) dX10_arrives_172 (by decide) ?_
      refine gm_iast dX10_arrives_173 ce_8_9 (fun w9 => ?_)
      refine gm_iconst (v := (-1)) dX10_arrives_174 (by decide) ?_
      exact gm_iret dX10_arrives_175
    · refine gm_iconst (v := 1) dX10_arrives_132 (by decide) ?_
      exact gm_iret dX10_arrives_133
  · refine gm_iconst (v := 0) dX10_arrives_106 (by decide) ?_
    exact gm_iret dX10_arrives_107
noncomputable def b_X10_arrives_11 (rc11 : Wd → Int32 → Int32 → Int32 → Int32 → Int32 → Option (Int32 × Wd)) (w : Wd) (y1 : Int32) (y2 : Int32) (y3 : Int32) (y4 : Int32) (y5 : Int32) : Option (Int32 × Wd) :=
  if y4 ≤ y5 then
    if ib 3 640 = true then
    if y4 = (w 8 1 (Int32.toNatClampNeg 3)) then
      some (4, w)
    else
      (f_X10_portOf w y2).bind fun q2 =>
      if 0 ≤ y3 then
        j_X10_arrives_100 q2.2 y1 y2 y4 y3
      else
        if ib (10 + y1) 640 = true then
        if (q2.2 8 1 (Int32.toNatClampNeg (10 + y1))) = 1 then
          if q2.1 < 0 then
            j_X10_arrives_100 q2.2 y1 y2 y4 y3
          else
            if ib ((350 + (2 * q2.1)) + 1) 640 = true then
            leti (q2.2 8 1 (Int32.toNatClampNeg ((350 + (2 * q2.1)) + 1))) fun u10 =>
            j_X10_arrives_100 q2.2 y1 y2 y4 u10
            else none
        else
          j_X10_arrives_100 q2.2 y1 y2 y4 y3
        else none
    else none
  else
    if ib y5 8 = true then
    if (w 8 5 (Int32.toNatClampNeg y5)) = y1 then
      some (3, w)
    else
      rc11 w y1 y2 y3 y4 (y5 + 1)
    else none
set_option maxRecDepth 100000 in
set_option maxHeartbeats 4000000 in
theorem kb_X10_arrives_11 {l : Launch} {E : En} (rc11 : Wd → Int32 → Int32 → Int32 → Int32 → Int32 → Option (Int32 × Wd)) (hrc11 : ∀ (w : Wd) (y1 : Int32) (y2 : Int32) (y3 : Int32) (y4 : Int32) (y5 : Int32), Gm l E cX10_arrives 8 RX10 (some .int) (rmk (4)) eI (rc11 w y1 y2 y3 y4 y5) w 11 [some (.ref (E.1 8 0)), some (.int (y1)), some (.int (y2)), some (.int (y3)), some (.int (y4)), some (.int (y5)), none, none] []) (w : Wd) (y1 : Int32) (y2 : Int32) (y3 : Int32) (y4 : Int32) (y5 : Int32) : Gm l E cX10_arrives 8 RX10 (some .int) (rmk (4)) eI (b_X10_arrives_11   rc11 w y1 y2 y3 y4 y5) w 11 [some (.ref (E.1 8 0)), some (.int (y1)), some (.int (y2)), some (.int (y3)), some (.int (y4)), some (.int (y5)), none, none] [] := by
  unfold b_X10_arrives_11
  refine gm_iload dX10_arrives_11 rfl ?_
  refine gm_iload dX10_arrives_13 rfl ?_
  refine gm_icmp_ge (tgt := 37) dX10_arrives_15 (by decide) ?_ ?_
  · refine gm_iload dX10_arrives_37 rfl ?_
    refine gm_aload_n dX10_arrives_39 rfl rfl ?_
    refine gm_get dX10_arrives_40 ce_8_0 rfl inX10 0 (by decide) tb_944 rfl rfl ?_
    refine gm_iconst (v := 3) dX10_arrives_43 (by decide) ?_
    refine gm_iald dX10_arrives_44 ce_8_1 ?_
    refine gm_icmp_ne (tgt := 50) dX10_arrives_45 (by decide) ?_ ?_
    · refine gm_iload_n dX10_arrives_50 rfl rfl ?_
      refine gm_istore (lv' := [some (.ref (E.1 8 0)), some (.int (y1)), some (.int (y2)), some (.int (y3)), some (.int (y4)), some (.int (y3)), none, none]) dX10_arrives_51 (by decide) rfl rfl ?_
      refine gm_aload_n dX10_arrives_53 rfl rfl ?_
      refine gm_iload_n dX10_arrives_54 rfl rfl ?_
      refine gm_callVi (As := [.int (y2)]) dX10_arrives_55 (t_X10_portOf w y2) ce_8_0 rfl cy_X10_portOf tb_1072 rfl rfl (rm_ok (by decide) (by decide)) (Nat.le_of_ble_eq_true rfl) (fun q2 => ?_)
      refine gm_istore (lv' := [some (.ref (E.1 8 0)), some (.int (y1)), some (.int (y2)), some (.int (y3)), some (.int (y4)), some (.int (y3)), some (.int (q2.1)), none]) dX10_arrives_58 (by decide) rfl rfl ?_
      refine gm_iload dX10_arrives_60 rfl ?_
      refine gm_if_ge (tgt := 100) dX10_arrives_62 (by decide) ?_ ?_
      · exact gm_weak (lsub_s (lsub_s (lsub_s (lsub_n (lsub_s (lsub_s (lsub_n (lsub_n lsub_0)))))))) (k_X10_arrives_100 q2.2 y1 y2 y4 y3)
      · refine gm_aload_n dX10_arrives_65 rfl rfl ?_
        refine gm_get dX10_arrives_66 ce_8_0 rfl inX10 0 (by decide) tb_944 rfl rfl ?_
        refine gm_bipush (v := 10) dX10_arrives_69 (by decide) ?_
        refine gm_iload_n dX10_arrives_71 rfl rfl ?_
        refine gm_iadd dX10_arrives_72 ?_
        refine gm_iald dX10_arrives_73 ce_8_1 ?_
        refine gm_iconst (v := 1) dX10_arrives_74 (by decide) ?_
        refine gm_icmp_ne (tgt := 100) dX10_arrives_75 (by decide) ?_ ?_
        · exact gm_weak (lsub_s (lsub_s (lsub_s (lsub_n (lsub_s (lsub_s (lsub_n (lsub_n lsub_0)))))))) (k_X10_arrives_100 q2.2 y1 y2 y4 y3)
        · refine gm_iload dX10_arrives_78 rfl ?_
          refine gm_if_lt (tgt := 100) dX10_arrives_80 (by decide) ?_ ?_
          · exact gm_weak (lsub_s (lsub_s (lsub_s (lsub_n (lsub_s (lsub_s (lsub_n (lsub_n lsub_0)))))))) (k_X10_arrives_100 q2.2 y1 y2 y4 y3)
          · refine gm_aload_n dX10_arrives_83 rfl rfl ?_
            refine gm_get dX10_arrives_84 ce_8_0 rfl inX10 0 (by decide) tb_944 rfl rfl ?_
            refine gm_sipush (v := 350) dX10_arrives_87 (by decide) ?_
            refine gm_iconst (v := 2) dX10_arrives_90 (by decide) ?_
            refine gm_iload dX10_arrives_91 rfl ?_
            refine gm_imul dX10_arrives_93 ?_
            refine gm_iadd dX10_arrives_94 ?_
            refine gm_iconst (v := 1) dX10_arrives_95 (by decide) ?_
            refine gm_iadd dX10_arrives_96 ?_
            refine gm_iald dX10_arrives_97 ce_8_1 ?_
            refine gm_leti_st (fun u10 => ?_)
            refine gm_istore (lv' := [some (.ref (E.1 8 0)), some (.int (y1)), some (.int (y2)), some (.int (y3)), some (.int (y4)), some (.int (u10)), some (.int (q2.1)), none]) dX10_arrives_98 (by decide) rfl rfl ?_
            exact gm_weak (lsub_s (lsub_s (lsub_s (lsub_n (lsub_s (lsub_s (lsub_n (lsub_n lsub_0)))))))) (k_X10_arrives_100 q2.2 y1 y2 y4 u10)
    · refine gm_iconst (v := 4) dX10_arrives_48 (by decide) ?_
      exact gm_iret dX10_arrives_49
  · refine gm_aload_n dX10_arrives_18 rfl rfl ?_
    refine gm_get dX10_arrives_19 ce_8_0 rfl inX10 6 (by decide) tb_950 rfl rfl ?_
    refine gm_iload dX10_arrives_22 rfl ?_
    refine gm_iald dX10_arrives_24 ce_8_5 ?_
    refine gm_iload_n dX10_arrives_25 rfl rfl ?_
    refine gm_icmp_ne (tgt := 31) dX10_arrives_26 (by decide) ?_ ?_
    · refine gm_iinc (v := 1) (lv' := [some (.ref (E.1 8 0)), some (.int (y1)), some (.int (y2)), some (.int (y3)), some (.int (y4)), some (.int (y5 + 1)), none, none]) dX10_arrives_31 rfl (by decide) (by decide) rfl rfl ?_
      refine gm_goto (tgt := 11) dX10_arrives_34 (by decide) ?_
      exact gm_weak (lsub_s (lsub_s (lsub_s (lsub_s (lsub_s (lsub_s (lsub_n (lsub_n lsub_0)))))))) (hrc11 w y1 y2 y3 y4 (y5 + 1))
    · refine gm_iconst (v := 3) dX10_arrives_29 (by decide) ?_
      exact gm_iret dX10_arrives_30
noncomputable def h_X10_arrives_11 : Nat → (Wd → Int32 → Int32 → Int32 → Int32 → Int32 → Option (Int32 × Wd))
  | 0 => fun _ _ _ _ _ _ => none
  | fu + 1 => b_X10_arrives_11    (h_X10_arrives_11    fu)
set_option maxRecDepth 100000 in
set_option maxHeartbeats 4000000 in
theorem k_X10_arrives_11 {l : Launch} {E : En} : ∀ (fu : Nat) (w : Wd) (y1 : Int32) (y2 : Int32) (y3 : Int32) (y4 : Int32) (y5 : Int32), Gm l E cX10_arrives 8 RX10 (some .int) (rmk (4)) eI (h_X10_arrives_11    fu w y1 y2 y3 y4 y5) w 11 [some (.ref (E.1 8 0)), some (.int (y1)), some (.int (y2)), some (.int (y3)), some (.int (y4)), some (.int (y5)), none, none] []
  | 0, _, _, _, _, _, _ => gm_none
  | fu + 1, w, y1, y2, y3, y4, y5 => kb_X10_arrives_11     (h_X10_arrives_11    fu)  (fun w y1 y2 y3 y4 y5 => k_X10_arrives_11      fu w y1 y2 y3 y4 y5) w y1 y2 y3 y4 y5
noncomputable def f_X10_arrives (w : Wd) (x1 : Int32) (x2 : Int32) (x3 : Int32) : Option (Int32 × Wd) :=
  leti ((w 8 0 12) + 1) fun u1 =>
  h_X10_arrives_11 FU w x1 x2 x3 u1 0
set_option maxRecDepth 100000 in
set_option maxHeartbeats 4000000 in
theorem t_X10_arrives {l : Launch} {E : En} (w : Wd) (x1 : Int32) (x2 : Int32) (x3 : Int32) : ∀ q, f_X10_arrives   w x1 x2 x3 = some q → Mt l E yX10_arrives cX10_arrives 8 (some .int) (rmk 4) [.ref (E.1 8 0), .int (x1), .int (x2), .int (x3)] w (eI q.1) q.2 := by
  refine Mt.of [some (.ref (E.1 8 0)), some (.int (x1)), some (.int (x2)), some (.int (x3)), none, none, none, none] (plainFor_of_name pn_X10) rfl (Nat.le_of_ble_eq_true rfl) rfl ?_
  unfold f_X10_arrives
  refine gm_aload_n dX10_arrives_0 rfl rfl ?_
  refine gm_get dX10_arrives_1 ce_8_0 rfl inX10 12 (by decide) tb_956 rfl rfl ?_
  refine gm_iconst (v := 1) dX10_arrives_4 (by decide) ?_
  refine gm_iadd dX10_arrives_5 ?_
  refine gm_leti_st (fun u1 => ?_)
  refine gm_istore (lv' := [some (.ref (E.1 8 0)), some (.int (x1)), some (.int (x2)), some (.int (x3)), some (.int (u1)), none, none, none]) dX10_arrives_6 (by decide) rfl rfl ?_
  refine gm_iconst (v := 0) dX10_arrives_8 (by decide) ?_
  refine gm_istore (lv' := [some (.ref (E.1 8 0)), some (.int (x1)), some (.int (x2)), some (.int (x3)), some (.int (u1)), some (.int (0)), none, none]) dX10_arrives_9 (by decide) rfl rfl ?_
  exact gm_weak (lsub_s (lsub_s (lsub_s (lsub_s (lsub_s (lsub_s (lsub_n (lsub_n lsub_0)))))))) (k_X10_arrives_11 FU w x1 x2 x3 u1 0)

noncomputable def f_X10_atHand (w : Wd) : Option (Int32 × Wd) :=
  if ib (w 8 0 12) 8 = true then
  if ib ((40 * (w 8 0 12)) + (w 8 9 (Int32.toNatClampNeg (w 8 0 12)))) 320 = true then
  some (w 8 7 (Int32.toNatClampNeg ((40 * (w 8 0 12)) + (w 8 9 (Int32.toNatClampNeg (w 8 0 12))))), w)
  else none
  else none
set_option maxRecDepth 100000 in
set_option maxHeartbeats 4000000 in
theorem t_X10_atHand {l : Launch} {E : En} (w : Wd) : ∀ q, f_X10_atHand   w  = some q → Mt l E yX10_atHand cX10_atHand 1 (some .int) (rmk 1) [.ref (E.1 8 0)] w (eI q.1) q.2 := by
  refine Mt.of [some (.ref (E.1 8 0))] (plainFor_of_name pn_X10) rfl (Nat.le_of_ble_eq_true rfl) rfl ?_
  unfold f_X10_atHand
  refine gm_aload_n dX10_atHand_0 rfl rfl ?_
  refine gm_get dX10_atHand_1 ce_8_0 rfl inX10 8 (by decide) tb_952 rfl rfl ?_
  refine gm_bipush (v := 40) dX10_atHand_4 (by decide) ?_
  refine gm_aload_n dX10_atHand_6 rfl rfl ?_
  refine gm_get dX10_atHand_7 ce_8_0 rfl inX10 12 (by decide) tb_956 rfl rfl ?_
  refine gm_imul dX10_atHand_10 ?_
  refine gm_aload_n dX10_atHand_11 rfl rfl ?_
  refine gm_get dX10_atHand_12 ce_8_0 rfl inX10 10 (by decide) tb_954 rfl rfl ?_
  refine gm_aload_n dX10_atHand_15 rfl rfl ?_
  refine gm_get dX10_atHand_16 ce_8_0 rfl inX10 12 (by decide) tb_956 rfl rfl ?_
  refine gm_iald dX10_atHand_19 ce_8_9 ?_
  refine gm_iadd dX10_atHand_20 ?_
  refine gm_iald dX10_atHand_21 ce_8_7 ?_
  exact gm_iret dX10_atHand_22

noncomputable def f_X10_attempt (w : Wd) (x1 : Int32) (x2 : Int32) : Option (Int32 × Wd) :=
  if (p_X10_in w x1 0 ((w 8 0 15) - 1)) = 0 then
    some ((-1), w)
  else
    if (p_X10_in w x2 0 1) = 0 then
      some ((-1), w)
    else
      if x2 = 0 then
        if ib x1 30 = true then
        some (w 8 11 (Int32.toNatClampNeg x1), w)
        else none
      else
        if ib x1 30 = true then
        some (w 8 12 (Int32.toNatClampNeg x1), w)
        else none
set_option maxRecDepth 100000 in
set_option maxHeartbeats 4000000 in
theorem t_X10_attempt {l : Launch} {E : En} (w : Wd) (x1 : Int32) (x2 : Int32) : ∀ q, f_X10_attempt   w x1 x2 = some q → Mt l E yX10_attempt cX10_attempt 3 (some .int) (rmk 2) [.ref (E.1 8 0), .int (x1), .int (x2)] w (eI q.1) q.2 := by
  refine Mt.of [some (.ref (E.1 8 0)), some (.int (x1)), some (.int (x2))] (plainFor_of_name pn_X10) rfl (Nat.le_of_ble_eq_true rfl) rfl ?_
  unfold f_X10_attempt
  refine gm_iload_n dX10_attempt_0 rfl rfl ?_
  refine gm_iconst (v := 0) dX10_attempt_1 (by decide) ?_
  refine gm_aload_n dX10_attempt_2 rfl rfl ?_
  refine gm_get dX10_attempt_3 ce_8_0 rfl inX10 15 (by decide) tb_959 rfl rfl ?_
  refine gm_iconst (v := 1) dX10_attempt_6 (by decide) ?_
  refine gm_isub dX10_attempt_7 ?_
  refine gm_callSk (As := [.int (x1), .int (0), .int ((w 8 0 15) - 1)]) dX10_attempt_8 (tk_X10_in w x1 0 ((w 8 0 15) - 1)) cy_X10_in tb_1033 rfl rfl (rm_ok (by decide) (by decide)) (Nat.le_of_ble_eq_true rfl) ?_
  refine gm_if_eq (tgt := 45) dX10_attempt_11 (by decide) ?_ ?_
  · refine gm_iconst (v := (-1)) dX10_attempt_45 (by decide) ?_
    exact gm_iret dX10_attempt_46
  · refine gm_iload_n dX10_attempt_14 rfl rfl ?_
    refine gm_iconst (v := 0) dX10_attempt_15 (by decide) ?_
    refine gm_iconst (v := 1) dX10_attempt_16 (by decide) ?_
    refine gm_callSk (As := [.int (x2), .int (0), .int (1)]) dX10_attempt_17 (tk_X10_in w x2 0 1) cy_X10_in tb_1033 rfl rfl (rm_ok (by decide) (by decide)) (Nat.le_of_ble_eq_true rfl) ?_
    refine gm_if_eq (tgt := 45) dX10_attempt_20 (by decide) ?_ ?_
    · refine gm_iconst (v := (-1)) dX10_attempt_45 (by decide) ?_
      exact gm_iret dX10_attempt_46
    · refine gm_iload_n dX10_attempt_23 rfl rfl ?_
      refine gm_if_ne (tgt := 36) dX10_attempt_24 (by decide) ?_ ?_
      · refine gm_aload_n dX10_attempt_36 rfl rfl ?_
        refine gm_get dX10_attempt_37 ce_8_0 rfl inX10 14 (by decide) tb_958 rfl rfl ?_
        refine gm_iload_n dX10_attempt_40 rfl rfl ?_
        refine gm_iald dX10_attempt_41 ce_8_12 ?_
        refine gm_goto (tgt := 46) dX10_attempt_42 (by decide) ?_
        exact gm_iret dX10_attempt_46
      · refine gm_aload_n dX10_attempt_27 rfl rfl ?_
        refine gm_get dX10_attempt_28 ce_8_0 rfl inX10 13 (by decide) tb_957 rfl rfl ?_
        refine gm_iload_n dX10_attempt_31 rfl rfl ?_
        refine gm_iald dX10_attempt_32 ce_8_11 ?_
        refine gm_goto (tgt := 46) dX10_attempt_33 (by decide) ?_
        exact gm_iret dX10_attempt_46

noncomputable def f_X10_attempts (w : Wd) : Option (Int32 × Wd) :=
  some (w 8 0 15, w)
set_option maxRecDepth 100000 in
set_option maxHeartbeats 4000000 in
theorem t_X10_attempts {l : Launch} {E : En} (w : Wd) : ∀ q, f_X10_attempts   w  = some q → Mt l E yX10_attempts cX10_attempts 1 (some .int) (rmk 1) [.ref (E.1 8 0)] w (eI q.1) q.2 := by
  refine Mt.of [some (.ref (E.1 8 0))] (plainFor_of_name pn_X10) rfl (Nat.le_of_ble_eq_true rfl) rfl ?_
  unfold f_X10_attempts
  refine gm_aload_n dX10_attempts_0 rfl rfl ?_
  refine gm_get dX10_attempts_1 ce_8_0 rfl inX10 15 (by decide) tb_959 rfl rfl ?_
  exact gm_iret dX10_attempts_4
noncomputable def p_X10_attempts (w : Wd) : Int32 :=
  w 8 0 15
theorem fp_X10_attempts (w : Wd) : f_X10_attempts  w  = some (p_X10_attempts  w , w) := by
  unfold f_X10_attempts p_X10_attempts
  (try simp only [leti, letl])
  repeat' (first | rfl | split)
theorem tk_X10_attempts {l : Launch} {E : En} (w : Wd) : Mt l E yX10_attempts cX10_attempts 1 (some .int) (rmk 1) [.ref (E.1 8 0)] w (some (.int (p_X10_attempts  w ))) w := t_X10_attempts   w  _ (fp_X10_attempts  w )

noncomputable def f_X10_band (w : Wd) : Option (Int32 × Wd) :=
  if ib 4 640 = true then
  some (p_X10_bandOf w (w 8 1 (Int32.toNatClampNeg 4)), w)
  else none
set_option maxRecDepth 100000 in
set_option maxHeartbeats 4000000 in
theorem t_X10_band {l : Launch} {E : En} (w : Wd) : ∀ q, f_X10_band   w  = some q → Mt l E yX10_band cX10_band 1 (some .int) (rmk 3) [.ref (E.1 8 0)] w (eI q.1) q.2 := by
  refine Mt.of [some (.ref (E.1 8 0))] (plainFor_of_name pn_X10) rfl (Nat.le_of_ble_eq_true rfl) rfl ?_
  unfold f_X10_band
  refine gm_aload_n dX10_band_0 rfl rfl ?_
  refine gm_aload_n dX10_band_1 rfl rfl ?_
  refine gm_get dX10_band_2 ce_8_0 rfl inX10 0 (by decide) tb_944 rfl rfl ?_
  refine gm_iconst (v := 4) dX10_band_5 (by decide) ?_
  refine gm_iald dX10_band_6 ce_8_1 ?_
  refine gm_callVk (As := [.int (w 8 1 (Int32.toNatClampNeg 4))]) dX10_band_7 (tk_X10_bandOf w (w 8 1 (Int32.toNatClampNeg 4))) ce_8_0 rfl cy_X10_bandOf tb_1122 rfl rfl (rm_ok (by decide) (by decide)) (Nat.le_of_ble_eq_true rfl) ?_
  exact gm_iret dX10_band_10

noncomputable def f_X10_isNumber (w : Wd) (x0 : Int32) : Option (Int32 × Wd) :=
  if zb (p_X10_in w x0 1 999999999) = true then
  some (p_X10_in w x0 1 999999999, w)
  else none
set_option maxRecDepth 100000 in
set_option maxHeartbeats 4000000 in
theorem t_X10_isNumber {l : Launch} {E : En} (w : Wd) (x0 : Int32) : ∀ q, f_X10_isNumber   w x0 = some q → Mt l E yX10_isNumber cX10_isNumber 1 (some .boolean) (rmk 2) [.int (x0)] w (eI q.1) q.2 := by
  refine Mt.of [some (.int (x0))] (plainFor_of_name pn_X10) rfl (Nat.le_of_ble_eq_true rfl) rfl ?_
  unfold f_X10_isNumber
  refine gm_iload_n dX10_isNumber_0 rfl rfl ?_
  refine gm_iconst (v := 1) dX10_isNumber_1 (by decide) ?_
  refine gm_ldc (v := 999999999) dX10_isNumber_2 tb_1056 ?_
  refine gm_callSk (As := [.int (x0), .int (1), .int (999999999)]) dX10_isNumber_4 (tk_X10_in w x0 1 999999999) cy_X10_in tb_1033 rfl rfl (rm_ok (by decide) (by decide)) (Nat.le_of_ble_eq_true rfl) ?_
  exact gm_zret_g dX10_isNumber_7

noncomputable def b_X10_copies_2 (c2 : Nat) (c3 : Nat) (rc2 : Wd → Int32 → Option (Unit × Wd)) (w : Wd) (y2 : Int32) : Option (Unit × Wd) :=
  if 640 ≤ y2 then
    some ((), w)
  else
    if ib y2 640 = true then
    if ib y2 640 = true then
    letw (wup w 8 c3 (Int32.toNatClampNeg y2) (w 8 c2 (Int32.toNatClampNeg y2))) fun w1 =>
    rc2 w1 (y2 + 1)
    else none
    else none
set_option maxRecDepth 100000 in
set_option maxHeartbeats 4000000 in
theorem kb_X10_copies_2 {l : Launch} {E : En} (c2 : Nat) (c3 : Nat) (hc2 : AI E 8 c2 640) (hc3 : AI E 8 c3 640) (rc2 : Wd → Int32 → Option (Unit × Wd)) (hrc2 : ∀ (w : Wd) (y2 : Int32), Gm l E cX10_copies 3 RX10 none (rmk (1)) eV (rc2 w y2) w 2 [some (.ref (E.1 8 c2)), some (.ref (E.1 8 c3)), some (.int (y2))] []) (w : Wd) (y2 : Int32) : Gm l E cX10_copies 3 RX10 none (rmk (1)) eV (b_X10_copies_2 c2 c3  rc2 w y2) w 2 [some (.ref (E.1 8 c2)), some (.ref (E.1 8 c3)), some (.int (y2))] [] := by
  unfold b_X10_copies_2
  refine gm_iload_n dX10_copies_2 rfl rfl ?_
  refine gm_sipush (v := 640) dX10_copies_3 (by decide) ?_
  refine gm_icmp_ge (tgt := 21) dX10_copies_6 (by decide) ?_ ?_
  · exact gm_vret dX10_copies_21
  · refine gm_aload_n dX10_copies_9 rfl rfl ?_
    refine gm_iload_n dX10_copies_10 rfl rfl ?_
    refine gm_aload_n dX10_copies_11 rfl rfl ?_
    refine gm_iload_n dX10_copies_12 rfl rfl ?_
    refine gm_iald dX10_copies_13 hc2 ?_
    refine gm_iast dX10_copies_14 hc3 (fun w1 => ?_)
    refine gm_iinc (v := 1) (lv' := [some (.ref (E.1 8 c2)), some (.ref (E.1 8 c3)), some (.int (y2 + 1))]) dX10_copies_15 rfl (by decide) (by decide) rfl rfl ?_
    refine gm_goto (tgt := 2) dX10_copies_18 (by decide) ?_
    exact gm_weak (lsub_s (lsub_s (lsub_s lsub_0))) (hrc2 w1 (y2 + 1))
noncomputable def h_X10_copies_2 (c2 : Nat) (c3 : Nat) : Nat → (Wd → Int32 → Option (Unit × Wd))
  | 0 => fun _ _ => none
  | fu + 1 => b_X10_copies_2 c2 c3   (h_X10_copies_2 c2 c3   fu)
set_option maxRecDepth 100000 in
set_option maxHeartbeats 4000000 in
theorem k_X10_copies_2 {l : Launch} {E : En} (c2 : Nat) (c3 : Nat) (hc2 : AI E 8 c2 640) (hc3 : AI E 8 c3 640) : ∀ (fu : Nat) (w : Wd) (y2 : Int32), Gm l E cX10_copies 3 RX10 none (rmk (1)) eV (h_X10_copies_2 c2 c3   fu w y2) w 2 [some (.ref (E.1 8 c2)), some (.ref (E.1 8 c3)), some (.int (y2))] []
  | 0, _, _ => gm_none
  | fu + 1, w, y2 => kb_X10_copies_2 c2 c3 hc2 hc3   (h_X10_copies_2 c2 c3   fu)  (fun w y2 => k_X10_copies_2 c2 c3 hc2 hc3    fu w y2) w y2
noncomputable def f_X10_copies (c2 : Nat) (c3 : Nat) (w : Wd) : Option (Unit × Wd) :=
  h_X10_copies_2 c2 c3 FU w 0
set_option maxRecDepth 100000 in
set_option maxHeartbeats 4000000 in
theorem t_X10_copies {l : Launch} {E : En} (c2 : Nat) (c3 : Nat) (hc2 : AI E 8 c2 640) (hc3 : AI E 8 c3 640) (w : Wd) : ∀ q, f_X10_copies  c2 c3 w  = some q → Mt l E yX10_copies cX10_copies 3 none (rmk 1) [.ref (E.1 8 c2), .ref (E.1 8 c3)] w (eV q.1) q.2 := by
  refine Mt.of [some (.ref (E.1 8 c2)), some (.ref (E.1 8 c3)), none] (plainFor_of_name pn_X10) rfl (Nat.le_of_ble_eq_true rfl) rfl ?_
  unfold f_X10_copies
  refine gm_iconst (v := 0) dX10_copies_0 (by decide) ?_
  refine gm_istore_n (lv' := [some (.ref (E.1 8 c2)), some (.ref (E.1 8 c3)), some (.int (0))]) dX10_copies_1 rfl (by decide) rfl rfl ?_
  exact gm_weak (lsub_s (lsub_s (lsub_s lsub_0))) (k_X10_copies_2 c2 c3 hc2 hc3 FU w 0)

noncomputable def b_X10_isBusy_4 (rc4 : Wd → Int32 → Int32 → Int32 → Option (Int32 × Wd)) (w : Wd) (y1 : Int32) (y2 : Int32) (y3 : Int32) : Option (Int32 × Wd) :=
  if 10 ≤ y3 then
    if zb y2 = true then
    some (y2, w)
    else none
  else
    if y2 = 0 then
      if ib (420 + (14 * y3)) 640 = true then
      if (w 8 1 (Int32.toNatClampNeg (420 + (14 * y3)))) = 1 then
        if ib ((420 + (14 * y3)) + 1) 640 = true then
        if (w 8 1 (Int32.toNatClampNeg ((420 + (14 * y3)) + 1))) = y1 then
          rc4 w y1 1 (y3 + 1)
        else
          rc4 w y1 0 (y3 + 1)
        else none
      else
        rc4 w y1 0 (y3 + 1)
      else none
    else
      rc4 w y1 1 (y3 + 1)
set_option maxRecDepth 100000 in
set_option maxHeartbeats 4000000 in
theorem kb_X10_isBusy_4 {l : Launch} {E : En} (rc4 : Wd → Int32 → Int32 → Int32 → Option (Int32 × Wd)) (hrc4 : ∀ (w : Wd) (y1 : Int32) (y2 : Int32) (y3 : Int32), Gm l E cX10_isBusy 4 RX10 (some .boolean) (rmk (1)) eI (rc4 w y1 y2 y3) w 4 [some (.ref (E.1 8 0)), some (.int (y1)), some (.int (y2)), some (.int (y3))] []) (w : Wd) (y1 : Int32) (y2 : Int32) (y3 : Int32) : Gm l E cX10_isBusy 4 RX10 (some .boolean) (rmk (1)) eI (b_X10_isBusy_4   rc4 w y1 y2 y3) w 4 [some (.ref (E.1 8 0)), some (.int (y1)), some (.int (y2)), some (.int (y3))] [] := by
  unfold b_X10_isBusy_4
  refine gm_iload_n dX10_isBusy_4 rfl rfl ?_
  refine gm_bipush (v := 10) dX10_isBusy_5 (by decide) ?_
  refine gm_icmp_ge (tgt := 62) dX10_isBusy_7 (by decide) ?_ ?_
  · refine gm_iload_n dX10_isBusy_62 rfl rfl ?_
    exact gm_zret_g dX10_isBusy_63
  · refine gm_iload_n dX10_isBusy_10 rfl rfl ?_
    refine gm_if_ne (tgt := 50) dX10_isBusy_11 (by decide) ?_ ?_
    · refine gm_iconst (v := 1) dX10_isBusy_50 (by decide) ?_
      refine gm_goto (tgt := 55) dX10_isBusy_51 (by decide) ?_
      refine gm_istore_n (lv' := [some (.ref (E.1 8 0)), some (.int (y1)), some (.int (1)), some (.int (y3))]) dX10_isBusy_55 rfl (by decide) rfl rfl ?_
      refine gm_iinc (v := 1) (lv' := [some (.ref (E.1 8 0)), some (.int (y1)), some (.int (1)), some (.int (y3 + 1))]) dX10_isBusy_56 rfl (by decide) (by decide) rfl rfl ?_
      refine gm_goto (tgt := 4) dX10_isBusy_59 (by decide) ?_
      exact gm_weak (lsub_s (lsub_s (lsub_s (lsub_s lsub_0)))) (hrc4 w y1 1 (y3 + 1))
    · refine gm_aload_n dX10_isBusy_14 rfl rfl ?_
      refine gm_get dX10_isBusy_15 ce_8_0 rfl inX10 0 (by decide) tb_944 rfl rfl ?_
      refine gm_sipush (v := 420) dX10_isBusy_18 (by decide) ?_
      refine gm_bipush (v := 14) dX10_isBusy_21 (by decide) ?_
      refine gm_iload_n dX10_isBusy_23 rfl rfl ?_
      refine gm_imul dX10_isBusy_24 ?_
      refine gm_iadd dX10_isBusy_25 ?_
      refine gm_iald dX10_isBusy_26 ce_8_1 ?_
      refine gm_iconst (v := 1) dX10_isBusy_27 (by decide) ?_
      refine gm_icmp_ne (tgt := 54) dX10_isBusy_28 (by decide) ?_ ?_
      · refine gm_iconst (v := 0) dX10_isBusy_54 (by decide) ?_
        refine gm_istore_n (lv' := [some (.ref (E.1 8 0)), some (.int (y1)), some (.int (0)), some (.int (y3))]) dX10_isBusy_55 rfl (by decide) rfl rfl ?_
        refine gm_iinc (v := 1) (lv' := [some (.ref (E.1 8 0)), some (.int (y1)), some (.int (0)), some (.int (y3 + 1))]) dX10_isBusy_56 rfl (by decide) (by decide) rfl rfl ?_
        refine gm_goto (tgt := 4) dX10_isBusy_59 (by decide) ?_
        exact gm_weak (lsub_s (lsub_s (lsub_s (lsub_s lsub_0)))) (hrc4 w y1 0 (y3 + 1))
      · refine gm_aload_n dX10_isBusy_31 rfl rfl ?_
        refine gm_get dX10_isBusy_32 ce_8_0 rfl inX10 0 (by decide) tb_944 rfl rfl ?_
        refine gm_sipush (v := 420) dX10_isBusy_35 (by decide) ?_
        refine gm_bipush (v := 14) dX10_isBusy_38 (by decide) ?_
        refine gm_iload_n dX10_isBusy_40 rfl rfl ?_
        refine gm_imul dX10_isBusy_41 ?_
        refine gm_iadd dX10_isBusy_42 ?_
        refine gm_iconst (v := 1) dX10_isBusy_43 (by decide) ?_
        refine gm_iadd dX10_isBusy_44 ?_
        refine gm_iald dX10_isBusy_45 ce_8_1 ?_
        refine gm_iload_n dX10_isBusy_46 rfl rfl ?_
        refine gm_icmp_ne (tgt := 54) dX10_isBusy_47 (by decide) ?_ ?_
        · refine gm_iconst (v := 0) dX10_isBusy_54 (by decide) ?_
          refine gm_istore_n (lv' := [some (.ref (E.1 8 0)), some (.int (y1)), some (.int (0)), some (.int (y3))]) dX10_isBusy_55 rfl (by decide) rfl rfl ?_
          refine gm_iinc (v := 1) (lv' := [some (.ref (E.1 8 0)), some (.int (y1)), some (.int (0)), some (.int (y3 + 1))]) dX10_isBusy_56 rfl (by decide) (by decide) rfl rfl ?_
          refine gm_goto (tgt := 4) dX10_isBusy_59 (by decide) ?_
          exact gm_weak (lsub_s (lsub_s (lsub_s (lsub_s lsub_0)))) (hrc4 w y1 0 (y3 + 1))
        · refine gm_iconst (v := 1) dX10_isBusy_50 (by decide) ?_
          refine gm_goto (tgt := 55) dX10_isBusy_51 (by decide) ?_
          refine gm_istore_n (lv' := [some (.ref (E.1 8 0)), some (.int (y1)), some (.int (1)), some (.int (y3))]) dX10_isBusy_55 rfl (by decide) rfl rfl ?_
          refine gm_iinc (v := 1) (lv' := [some (.ref (E.1 8 0)), some (.int (y1)), some (.int (1)), some (.int (y3 + 1))]) dX10_isBusy_56 rfl (by decide) (by decide) rfl rfl ?_
          refine gm_goto (tgt := 4) dX10_isBusy_59 (by decide) ?_
          exact gm_weak (lsub_s (lsub_s (lsub_s (lsub_s lsub_0)))) (hrc4 w y1 1 (y3 + 1))
noncomputable def h_X10_isBusy_4 : Nat → (Wd → Int32 → Int32 → Int32 → Option (Int32 × Wd))
  | 0 => fun _ _ _ _ => none
  | fu + 1 => b_X10_isBusy_4    (h_X10_isBusy_4    fu)
set_option maxRecDepth 100000 in
set_option maxHeartbeats 4000000 in
theorem k_X10_isBusy_4 {l : Launch} {E : En} : ∀ (fu : Nat) (w : Wd) (y1 : Int32) (y2 : Int32) (y3 : Int32), Gm l E cX10_isBusy 4 RX10 (some .boolean) (rmk (1)) eI (h_X10_isBusy_4    fu w y1 y2 y3) w 4 [some (.ref (E.1 8 0)), some (.int (y1)), some (.int (y2)), some (.int (y3))] []
  | 0, _, _, _, _ => gm_none
  | fu + 1, w, y1, y2, y3 => kb_X10_isBusy_4     (h_X10_isBusy_4    fu)  (fun w y1 y2 y3 => k_X10_isBusy_4      fu w y1 y2 y3) w y1 y2 y3
noncomputable def f_X10_isBusy (w : Wd) (x1 : Int32) : Option (Int32 × Wd) :=
  h_X10_isBusy_4 FU w x1 0 0
set_option maxRecDepth 100000 in
set_option maxHeartbeats 4000000 in
theorem t_X10_isBusy {l : Launch} {E : En} (w : Wd) (x1 : Int32) : ∀ q, f_X10_isBusy   w x1 = some q → Mt l E yX10_isBusy cX10_isBusy 4 (some .boolean) (rmk 1) [.ref (E.1 8 0), .int (x1)] w (eI q.1) q.2 := by
  refine Mt.of [some (.ref (E.1 8 0)), some (.int (x1)), none, none] (plainFor_of_name pn_X10) rfl (Nat.le_of_ble_eq_true rfl) rfl ?_
  unfold f_X10_isBusy
  refine gm_iconst (v := 0) dX10_isBusy_0 (by decide) ?_
  refine gm_istore_n (lv' := [some (.ref (E.1 8 0)), some (.int (x1)), some (.int (0)), none]) dX10_isBusy_1 rfl (by decide) rfl rfl ?_
  refine gm_iconst (v := 0) dX10_isBusy_2 (by decide) ?_
  refine gm_istore_n (lv' := [some (.ref (E.1 8 0)), some (.int (x1)), some (.int (0)), some (.int (0))]) dX10_isBusy_3 rfl (by decide) rfl rfl ?_
  exact gm_weak (lsub_s (lsub_s (lsub_s (lsub_s lsub_0)))) (k_X10_isBusy_4 FU w x1 0 0)

noncomputable def f_X10_serves (w : Wd) (x1 : Int32) : Option (Int32 × Wd) :=
  (f_X10_of w x1 0).bind fun q1 =>
  (f_X10_of q1.2 x1 2).bind fun q2 =>
  if q1.1 = q2.1 then
    some (1, q2.2)
  else
    some (0, q2.2)
set_option maxRecDepth 100000 in
set_option maxHeartbeats 4000000 in
theorem t_X10_serves {l : Launch} {E : En} (w : Wd) (x1 : Int32) : ∀ q, f_X10_serves   w x1 = some q → Mt l E yX10_serves cX10_serves 2 (some .boolean) (rmk 2) [.ref (E.1 8 0), .int (x1)] w (eI q.1) q.2 := by
  refine Mt.of [some (.ref (E.1 8 0)), some (.int (x1))] (plainFor_of_name pn_X10) rfl (Nat.le_of_ble_eq_true rfl) rfl ?_
  unfold f_X10_serves
  refine gm_aload_n dX10_serves_0 rfl rfl ?_
  refine gm_iload_n dX10_serves_1 rfl rfl ?_
  refine gm_iconst (v := 0) dX10_serves_2 (by decide) ?_
  refine gm_callVi (As := [.int (x1), .int (0)]) dX10_serves_3 (t_X10_of w x1 0) ce_8_0 rfl cy_X10_of tb_1114 rfl rfl (rm_ok (by decide) (by decide)) (Nat.le_of_ble_eq_true rfl) (fun q1 => ?_)
  refine gm_aload_n dX10_serves_6 rfl rfl ?_
  refine gm_iload_n dX10_serves_7 rfl rfl ?_
  refine gm_iconst (v := 2) dX10_serves_8 (by decide) ?_
  refine gm_callVi (As := [.int (x1), .int (2)]) dX10_serves_9 (t_X10_of q1.2 x1 2) ce_8_0 rfl cy_X10_of tb_1114 rfl rfl (rm_ok (by decide) (by decide)) (Nat.le_of_ble_eq_true rfl) (fun q2 => ?_)
  refine gm_icmp_ne (tgt := 19) dX10_serves_12 (by decide) ?_ ?_
  · refine gm_iconst (v := 0) dX10_serves_19 (by decide) ?_
    exact gm_zret dX10_serves_20 rfl
  · refine gm_iconst (v := 1) dX10_serves_15 (by decide) ?_
    refine gm_goto (tgt := 20) dX10_serves_16 (by decide) ?_
    exact gm_zret dX10_serves_20 rfl

noncomputable def j_X10_tries_144 (w : Wd) (y2 : Int32) (z0 : Int32) : Option (Int32 × Wd) :=
  if z0 ≤ 0 then
    some (z0, w)
  else
    if ib ((30 + (8 * y2)) + 7) 640 = true then
    if ib ((30 + (8 * y2)) + 7) 640 = true then
    letw (wup w 8 1 (Int32.toNatClampNeg ((30 + (8 * y2)) + 7)) ((w 8 1 (Int32.toNatClampNeg ((30 + (8 * y2)) + 7))) - 1)) fun w12 =>
    some (z0, w12)
    else none
    else none
set_option maxRecDepth 100000 in
set_option maxHeartbeats 4000000 in
theorem k_X10_tries_144 {l : Launch} {E : En} (w : Wd) (y2 : Int32) (z0 : Int32) : Gm l E cX10_tries 5 RX10 (some .int) (rmk (5)) eI (j_X10_tries_144    w y2 z0) w 144 [some (.ref (E.1 8 0)), none, some (.int (y2)), none, none] [.int (z0)] := by
  unfold j_X10_tries_144
  refine gm_istore (lv' := [some (.ref (E.1 8 0)), none, some (.int (y2)), none, some (.int (z0))]) dX10_tries_144 (by decide) rfl rfl ?_
  refine gm_iload dX10_tries_146 rfl ?_
  refine gm_if_le (tgt := 170) dX10_tries_148 (by decide) ?_ ?_
  · refine gm_iload dX10_tries_170 rfl ?_
    exact gm_iret dX10_tries_172
  · refine gm_aload_n dX10_tries_151 rfl rfl ?_
    refine gm_get dX10_tries_152 ce_8_0 rfl inX10 0 (by decide) tb_944 rfl rfl ?_
    refine gm_bipush (v := 30) dX10_tries_155 (by decide) ?_
    refine gm_bipush (v := 8) dX10_tries_157 (by decide) ?_
    refine gm_iload_n dX10_tries_159 rfl rfl ?_
    refine gm_imul dX10_tries_160 ?_
    refine gm_iadd dX10_tries_161 ?_
    refine gm_bipush (v := 7) dX10_tries_162 (by decide) ?_
    refine gm_iadd dX10_tries_164 ?_
    refine gm_dup2 dX10_tries_165 rfl rfl ?_
    refine gm_iald dX10_tries_166 ce_8_1 ?_
    refine gm_iconst (v := 1) dX10_tries_167 (by decide) ?_
    refine gm_isub dX10_tries_168 ?_
    refine gm_iast dX10_tries_169 ce_8_1 (fun w12 => ?_)
    refine gm_iload dX10_tries_170 rfl ?_
    exact gm_iret dX10_tries_172
noncomputable def f_X10_tries (w : Wd) (x1 : Int32) : Option (Int32 × Wd) :=
  (f_X10_atHand w).bind fun q1 =>
  if ib ((q1.2) 8 0 12) 8 = true then
  letw (wup q1.2 8 10 (Int32.toNatClampNeg ((q1.2) 8 0 12)) ((q1.2) 8 0 15)) fun w2 =>
  if ib (w2 8 0 15) 30 = true then
  letw (wup w2 8 11 (Int32.toNatClampNeg (w2 8 0 15)) q1.1) fun w3 =>
  letw (wup w3 8 0 15 ((w3 8 0 15) + 1)) fun w4 =>
  (f_X10_serves w4 q1.1).bind fun q5 =>
  if q5.1 = 0 then
    (f_X10_of q5.2 q1.1 7).bind fun q6 =>
    (f_X10_of q6.2 q1.1 6).bind fun q7 =>
    if q6.1 = q7.1 then
      some (2, q7.2)
    else
      if ib ((30 + (8 * q1.1)) + 7) 640 = true then
      if ib ((30 + (8 * q1.1)) + 7) 640 = true then
      letw (wup q7.2 8 1 (Int32.toNatClampNeg ((30 + (8 * q1.1)) + 7)) ((q7.2 8 1 (Int32.toNatClampNeg ((30 + (8 * q1.1)) + 7))) + 1)) fun w8 =>
      leti (w8 8 0 12) fun u9 =>
      (f_X10_of w8 q1.1 2).bind fun q10 =>
      if ib ((q10.2) 8 0 12) 8 = true then
      (f_X10_arrives q10.2 q10.1 x1 (q10.2 8 6 (Int32.toNatClampNeg ((q10.2) 8 0 12)))).bind fun q11 =>
      if q11.1 = 0 then
        (f_X10_isBusy q11.2 x1).bind fun q13 =>
        if q13.1 = 0 then
          j_X10_tries_144 q13.2 q1.1 q11.1
        else
          j_X10_tries_144 q13.2 q1.1 5
      else
        j_X10_tries_144 q11.2 q1.1 q11.1
      else none
      else none
      else none
  else
    (f_X10_isBusy q5.2 x1).bind fun q14 =>
    if q14.1 = 0 then
      some (0, q14.2)
    else
      some (5, q14.2)
  else none
  else none
set_option maxRecDepth 100000 in
set_option maxHeartbeats 4000000 in
theorem t_X10_tries {l : Launch} {E : En} (w : Wd) (x1 : Int32) : ∀ q, f_X10_tries   w x1 = some q → Mt l E yX10_tries cX10_tries 5 (some .int) (rmk 5) [.ref (E.1 8 0), .int (x1)] w (eI q.1) q.2 := by
  refine Mt.of [some (.ref (E.1 8 0)), some (.int (x1)), none, none, none] (plainFor_of_name pn_X10) rfl (Nat.le_of_ble_eq_true rfl) rfl ?_
  unfold f_X10_tries
  refine gm_aload_n dX10_tries_0 rfl rfl ?_
  refine gm_callVi (As := []) dX10_tries_1 (t_X10_atHand w) ce_8_0 rfl cy_X10_atHand tb_1134 rfl rfl (rm_ok (by decide) (by decide)) (Nat.le_of_ble_eq_true rfl) (fun q1 => ?_)
  refine gm_istore_n (lv' := [some (.ref (E.1 8 0)), some (.int (x1)), some (.int (q1.1)), none, none]) dX10_tries_4 rfl (by decide) rfl rfl ?_
  refine gm_aload_n dX10_tries_5 rfl rfl ?_
  refine gm_get dX10_tries_6 ce_8_0 rfl inX10 11 (by decide) tb_955 rfl rfl ?_
  refine gm_aload_n dX10_tries_9 rfl rfl ?_
  refine gm_get dX10_tries_10 ce_8_0 rfl inX10 12 (by decide) tb_956 rfl rfl ?_
  refine gm_aload_n dX10_tries_13 rfl rfl ?_
  refine gm_get dX10_tries_14 ce_8_0 rfl inX10 15 (by decide) tb_959 rfl rfl ?_
  refine gm_iast dX10_tries_17 ce_8_10 (fun w2 => ?_)
  refine gm_aload_n dX10_tries_18 rfl rfl ?_
  refine gm_get dX10_tries_19 ce_8_0 rfl inX10 13 (by decide) tb_957 rfl rfl ?_
  refine gm_aload_n dX10_tries_22 rfl rfl ?_
  refine gm_get dX10_tries_23 ce_8_0 rfl inX10 15 (by decide) tb_959 rfl rfl ?_
  refine gm_iload_n dX10_tries_26 rfl rfl ?_
  refine gm_iast dX10_tries_27 ce_8_11 (fun w3 => ?_)
  refine gm_aload_n dX10_tries_28 rfl rfl ?_
  refine gm_dup dX10_tries_29 rfl ?_
  refine gm_get dX10_tries_30 ce_8_0 rfl inX10 15 (by decide) tb_959 rfl rfl ?_
  refine gm_iconst (v := 1) dX10_tries_33 (by decide) ?_
  refine gm_iadd dX10_tries_34 ?_
  refine gm_put dX10_tries_35 ce_8_0 rfl inX10 tyX10 tyX10_ok nmX10 15 (by decide) tb_959 rfl rfl (by decide +kernel) (fun _ => rfl) (fun _ => rfl) (fun w4 => ?_)
  refine gm_aload_n dX10_tries_38 rfl rfl ?_
  refine gm_iload_n dX10_tries_39 rfl rfl ?_
  refine gm_callVi (As := [.int (q1.1)]) dX10_tries_40 (t_X10_serves w4 q1.1) ce_8_0 rfl cy_X10_serves tb_1138 rfl rfl (rm_ok (by decide) (by decide)) (Nat.le_of_ble_eq_true rfl) (fun q5 => ?_)
  refine gm_if_eq (tgt := 60) dX10_tries_43 (by decide) ?_ ?_
  · refine gm_aload_n dX10_tries_60 rfl rfl ?_
    refine gm_iload_n dX10_tries_61 rfl rfl ?_
    refine gm_bipush (v := 7) dX10_tries_62 (by decide) ?_
    refine gm_callVi (As := [.int (q1.1), .int (7)]) dX10_tries_64 (t_X10_of q5.2 q1.1 7) ce_8_0 rfl cy_X10_of tb_1114 rfl rfl (rm_ok (by decide) (by decide)) (Nat.le_of_ble_eq_true rfl) (fun q6 => ?_)
    refine gm_aload_n dX10_tries_67 rfl rfl ?_
    refine gm_iload_n dX10_tries_68 rfl rfl ?_
    refine gm_bipush (v := 6) dX10_tries_69 (by decide) ?_
    refine gm_callVi (As := [.int (q1.1), .int (6)]) dX10_tries_71 (t_X10_of q6.2 q1.1 6) ce_8_0 rfl cy_X10_of tb_1114 rfl rfl (rm_ok (by decide) (by decide)) (Nat.le_of_ble_eq_true rfl) (fun q7 => ?_)
    refine gm_icmp_ne (tgt := 79) dX10_tries_74 (by decide) ?_ ?_
    · refine gm_aload_n dX10_tries_79 rfl rfl ?_
      refine gm_get dX10_tries_80 ce_8_0 rfl inX10 0 (by decide) tb_944 rfl rfl ?_
      refine gm_bipush (v := 30) dX10_tries_83 (by decide) ?_
      refine gm_bipush (v := 8) dX10_tries_85 (by decide) ?_
      refine gm_iload_n dX10_tries_87 rfl rfl ?_
      refine gm_imul dX10_tries_88 ?_
      refine gm_iadd dX10_tries_89 ?_
      refine gm_bipush (v := 7) dX10_tries_90 (by decide) ?_
      refine gm_iadd dX10_tries_92 ?_
      refine gm_dup2 dX10_tries_93 rfl rfl ?_
      refine gm_iald dX10_tries_94 ce_8_1 ?_
      refine gm_iconst (v := 1) dX10_tries_95 (by decide) ?_
      refine gm_iadd dX10_tries_96 ?_
      refine gm_iast dX10_tries_97 ce_8_1 (fun w8 => ?_)
      refine gm_aload_n dX10_tries_98 rfl rfl ?_
      refine gm_get dX10_tries_99 ce_8_0 rfl inX10 12 (by decide) tb_956 rfl rfl ?_
      refine gm_leti_st (fun u9 => ?_)
      refine gm_istore_n (lv' := [some (.ref (E.1 8 0)), some (.int (x1)), some (.int (q1.1)), some (.int (u9)), none]) dX10_tries_102 rfl (by decide) rfl rfl ?_
      refine gm_aload_n dX10_tries_103 rfl rfl ?_
      refine gm_aload_n dX10_tries_104 rfl rfl ?_
      refine gm_iload_n dX10_tries_105 rfl rfl ?_
      refine gm_iconst (v := 2) dX10_tries_106 (by decide) ?_
      refine gm_callVi (As := [.int (q1.1), .int (2)]) dX10_tries_107 (t_X10_of w8 q1.1 2) ce_8_0 rfl cy_X10_of tb_1114 rfl rfl (rm_ok (by decide) (by decide)) (Nat.le_of_ble_eq_true rfl) (fun q10 => ?_)
      refine gm_iload_n dX10_tries_110 rfl rfl ?_
      refine gm_aload_n dX10_tries_111 rfl rfl ?_
      refine gm_get dX10_tries_112 ce_8_0 rfl inX10 7 (by decide) tb_951 rfl rfl ?_
      refine gm_aload_n dX10_tries_115 rfl rfl ?_
      refine gm_get dX10_tries_116 ce_8_0 rfl inX10 12 (by decide) tb_956 rfl rfl ?_
      refine gm_iald dX10_tries_119 ce_8_6 ?_
      refine gm_callVi (As := [.int (q10.1), .int (x1), .int (q10.2 8 6 (Int32.toNatClampNeg ((q10.2) 8 0 12)))]) dX10_tries_120 (t_X10_arrives q10.2 q10.1 x1 (q10.2 8 6 (Int32.toNatClampNeg ((q10.2) 8 0 12)))) ce_8_0 rfl cy_X10_arrives tb_1095 rfl rfl (rm_ok (by decide) (by decide)) (Nat.le_of_ble_eq_true rfl) (fun q11 => ?_)
      refine gm_istore (lv' := [some (.ref (E.1 8 0)), some (.int (x1)), some (.int (q1.1)), some (.int (u9)), some (.int (q11.1))]) dX10_tries_123 (by decide) rfl rfl ?_
      refine gm_iload dX10_tries_125 rfl ?_
      refine gm_if_ne (tgt := 142) dX10_tries_127 (by decide) ?_ ?_
      · refine gm_iload dX10_tries_142 rfl ?_
        exact gm_weak (lsub_s (lsub_n (lsub_s (lsub_n (lsub_n lsub_0))))) (k_X10_tries_144 q11.2 q1.1 q11.1)
      · refine gm_aload_n dX10_tries_130 rfl rfl ?_
        refine gm_iload_n dX10_tries_131 rfl rfl ?_
        refine gm_callVi (As := [.int (x1)]) dX10_tries_132 (t_X10_isBusy q11.2 x1) ce_8_0 rfl cy_X10_isBusy tb_1126 rfl rfl (rm_ok (by decide) (by decide)) (Nat.le_of_ble_eq_true rfl) (fun q13 => ?_)
        refine gm_if_eq (tgt := 142) dX10_tries_135 (by decide) ?_ ?_
        · refine gm_iload dX10_tries_142 rfl ?_
          exact gm_weak (lsub_s (lsub_n (lsub_s (lsub_n (lsub_n lsub_0))))) (k_X10_tries_144 q13.2 q1.1 q11.1)
        · refine gm_iconst (v := 5) dX10_tries_138 (by decide) ?_
          refine gm_goto (tgt := 144) dX10_tries_139 (by decide) ?_
          exact gm_weak (lsub_s (lsub_n (lsub_s (lsub_n (lsub_n lsub_0))))) (k_X10_tries_144 q13.2 q1.1 5)
    · refine gm_iconst (v := 2) dX10_tries_77 (by decide) ?_
      exact gm_iret dX10_tries_78
  · refine gm_aload_n dX10_tries_46 rfl rfl ?_
    refine gm_iload_n dX10_tries_47 rfl rfl ?_
    refine gm_callVi (As := [.int (x1)]) dX10_tries_48 (t_X10_isBusy q5.2 x1) ce_8_0 rfl cy_X10_isBusy tb_1126 rfl rfl (rm_ok (by decide) (by decide)) (Nat.le_of_ble_eq_true rfl) (fun q14 => ?_)
    refine gm_if_eq (tgt := 58) dX10_tries_51 (by decide) ?_ ?_
    · refine gm_iconst (v := 0) dX10_tries_58 (by decide) ?_
      exact gm_iret dX10_tries_59
    · refine gm_iconst (v := 5) dX10_tries_54 (by decide) ?_
      refine gm_goto (tgt := 59) dX10_tries_55 (by decide) ?_
      exact gm_iret dX10_tries_59

noncomputable def f_X10_leaves (w : Wd) (x1 : Int32) : Option (Unit × Wd) :=
  letw (wup w 8 0 12 ((w 8 0 12) - 1)) fun w1 =>
  if (w1 8 0 12) < 0 then
    some ((), w1)
  else
    (f_X10_atHand w1).bind fun q2 =>
    if ib ((30 + (8 * q2.1)) + 7) 640 = true then
    if ib ((30 + (8 * q2.1)) + 7) 640 = true then
    letw (wup q2.2 8 1 (Int32.toNatClampNeg ((30 + (8 * q2.1)) + 7)) ((q2.2 8 1 (Int32.toNatClampNeg ((30 + (8 * q2.1)) + 7))) - 1)) fun w3 =>
    some ((), w3)
    else none
    else none
set_option maxRecDepth 100000 in
set_option maxHeartbeats 4000000 in
theorem t_X10_leaves {l : Launch} {E : En} (w : Wd) (x1 : Int32) : ∀ q, f_X10_leaves   w x1 = some q → Mt l E yX10_leaves cX10_leaves 2 none (rmk 2) [.ref (E.1 8 0), .int (x1)] w (eV q.1) q.2 := by
  refine Mt.of [some (.ref (E.1 8 0)), some (.int (x1))] (plainFor_of_name pn_X10) rfl (Nat.le_of_ble_eq_true rfl) rfl ?_
  unfold f_X10_leaves
  refine gm_aload_n dX10_leaves_0 rfl rfl ?_
  refine gm_dup dX10_leaves_1 rfl ?_
  refine gm_get dX10_leaves_2 ce_8_0 rfl inX10 12 (by decide) tb_956 rfl rfl ?_
  refine gm_iconst (v := 1) dX10_leaves_5 (by decide) ?_
  refine gm_isub dX10_leaves_6 ?_
  refine gm_put dX10_leaves_7 ce_8_0 rfl inX10 tyX10 tyX10_ok nmX10 12 (by decide) tb_956 rfl rfl (by decide +kernel) (fun _ => rfl) (fun _ => rfl) (fun w1 => ?_)
  refine gm_aload_n dX10_leaves_10 rfl rfl ?_
  refine gm_get dX10_leaves_11 ce_8_0 rfl inX10 12 (by decide) tb_956 rfl rfl ?_
  refine gm_if_lt (tgt := 39) dX10_leaves_14 (by decide) ?_ ?_
  · exact gm_vret dX10_leaves_39
  · refine gm_aload_n dX10_leaves_17 rfl rfl ?_
    refine gm_get dX10_leaves_18 ce_8_0 rfl inX10 0 (by decide) tb_944 rfl rfl ?_
    refine gm_bipush (v := 30) dX10_leaves_21 (by decide) ?_
    refine gm_bipush (v := 8) dX10_leaves_23 (by decide) ?_
    refine gm_aload_n dX10_leaves_25 rfl rfl ?_
    refine gm_callVi (As := []) dX10_leaves_26 (t_X10_atHand w1) ce_8_0 rfl cy_X10_atHand tb_1134 rfl rfl (rm_ok (by decide) (by decide)) (Nat.le_of_ble_eq_true rfl) (fun q2 => ?_)
    refine gm_imul dX10_leaves_29 ?_
    refine gm_iadd dX10_leaves_30 ?_
    refine gm_bipush (v := 7) dX10_leaves_31 (by decide) ?_
    refine gm_iadd dX10_leaves_33 ?_
    refine gm_dup2 dX10_leaves_34 rfl rfl ?_
    refine gm_iald dX10_leaves_35 ce_8_1 ?_
    refine gm_iconst (v := 1) dX10_leaves_36 (by decide) ?_
    refine gm_isub dX10_leaves_37 ?_
    refine gm_iast dX10_leaves_38 ce_8_1 (fun w3 => ?_)
    exact gm_vret dX10_leaves_39
