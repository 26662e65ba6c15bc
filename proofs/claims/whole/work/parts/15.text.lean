noncomputable def f_X7_append (w : Wd) (x1 : Int32) : Option (Int32 × Wd) :=
  if (w 7 3 7) < 80 then
    if ib (w 7 3 7) 80 = true then
    letw (wup w 7 4 (Int32.toNatClampNeg (w 7 3 7)) (vp_nar .char x1)) fun w1 =>
    letw (wup w1 7 3 7 ((w1 7 3 7) + 1)) fun w2 =>
    some (1, w2)
    else none
  else
    some (0, w)
set_option maxRecDepth 100000 in
set_option maxHeartbeats 4000000 in
theorem t_X7_append {l : Launch} {E : En} (w : Wd) (x1 : Int32) : ∀ q, f_X7_append   w x1 = some q → Mt l E yX7_append cX7_append 2 (some .boolean) (rmk 1) [.ref (E.1 7 3), .int (x1)] w (eI q.1) q.2 := by
  refine Mt.of [some (.ref (E.1 7 3)), some (.int (x1))] (plainFor_of_name pn_X7) rfl (Nat.le_of_ble_eq_true rfl) rfl ?_
  unfold f_X7_append
  refine gm_aload_n dX7_append_0 rfl rfl ?_
  refine gm_get dX7_append_1 ce_7_3 rfl inX7 7 (by decide) tb_212 rfl rfl ?_
  refine gm_bipush (v := 80) dX7_append_4 (by decide) ?_
  refine gm_icmp_lt (tgt := 11) dX7_append_6 (by decide) ?_ ?_
  · refine gm_aload_n dX7_append_11 rfl rfl ?_
    refine gm_get dX7_append_12 ce_7_3 rfl inX7 0 (by decide) tb_205 rfl rfl ?_
    refine gm_aload_n dX7_append_15 rfl rfl ?_
    refine gm_get dX7_append_16 ce_7_3 rfl inX7 7 (by decide) tb_212 rfl rfl ?_
    refine gm_iload_n dX7_append_19 rfl rfl ?_
    refine gm_cast dX7_append_20 ce_7_4 (fun w1 => ?_)
    refine gm_aload_n dX7_append_21 rfl rfl ?_
    refine gm_dup dX7_append_22 rfl ?_
    refine gm_get dX7_append_23 ce_7_3 rfl inX7 7 (by decide) tb_212 rfl rfl ?_
    refine gm_iconst (v := 1) dX7_append_26 (by decide) ?_
    refine gm_iadd dX7_append_27 ?_
    refine gm_put dX7_append_28 ce_7_3 rfl inX7 tyX7 tyX7_ok nmX7 7 (by decide) tb_212 rfl rfl (by decide +kernel) (fun _ => rfl) (fun _ => rfl) (fun w2 => ?_)
    refine gm_iconst (v := 1) dX7_append_31 (by decide) ?_
    exact gm_zret dX7_append_32 rfl
  · refine gm_iconst (v := 0) dX7_append_9 (by decide) ?_
    exact gm_zret dX7_append_10 rfl

noncomputable def f_X7_putRoute (n : Nat) (w : Wd) (x1 : Int32) : Option (Int32 × Wd) :=
  if ib x1 27 = true then
  leti (w 7 6 (Int32.toNatClampNeg x1)) fun u1 =>
  if ib x1 27 = true then
  leti (w 7 7 (Int32.toNatClampNeg x1)) fun u2 =>
  if ib x1 27 = true then
  if ib x1 27 = true then
  if ib x1 27 = true then
  if (p_X4_routeRefusal n w u1 (w 7 8 (Int32.toNatClampNeg x1)) u2 (w 7 9 (Int32.toNatClampNeg x1)) (w 7 10 (Int32.toNatClampNeg x1))) = 0 then
    if ib x1 27 = true then
    if ib x1 27 = true then
    if ib x1 27 = true then
    (f_X6_put n w u1 (w 7 8 (Int32.toNatClampNeg x1)) u2 (w 7 9 (Int32.toNatClampNeg x1)) (w 7 10 (Int32.toNatClampNeg x1))).bind fun q3 =>
    some (1, q3.2)
    else none
    else none
    else none
  else
    some (0, w)
  else none
  else none
  else none
  else none
  else none
set_option maxRecDepth 100000 in
set_option maxHeartbeats 4000000 in
theorem t_X7_putRoute {l : Launch} {E : En} (n : Nat) (hn : n < 7) (w : Wd) (x1 : Int32) : ∀ q, f_X7_putRoute  n w x1 = some q → Mt l E yX7_putRoute cX7_putRoute 5 (some .boolean) (rmk 3) [.ref (E.1 7 3), .int (x1), .ref (E.1 n 0)] w (eI q.1) q.2 := by
  refine Mt.of [some (.ref (E.1 7 3)), some (.int (x1)), some (.ref (E.1 n 0)), none, none] (plainFor_of_name pn_X7) rfl (Nat.le_of_ble_eq_true rfl) rfl ?_
  unfold f_X7_putRoute
  refine gm_aload_n dX7_putRoute_0 rfl rfl ?_
  refine gm_get dX7_putRoute_1 ce_7_3 rfl inX7 2 (by decide) tb_207 rfl rfl ?_
  refine gm_iload_n dX7_putRoute_4 rfl rfl ?_
  refine gm_iald dX7_putRoute_5 ce_7_6 ?_
  refine gm_leti_st (fun u1 => ?_)
  refine gm_istore_n (lv' := [some (.ref (E.1 7 3)), some (.int (x1)), some (.ref (E.1 n 0)), some (.int (u1)), none]) dX7_putRoute_6 rfl (by decide) rfl rfl ?_
  refine gm_aload_n dX7_putRoute_7 rfl rfl ?_
  refine gm_get dX7_putRoute_8 ce_7_3 rfl inX7 3 (by decide) tb_208 rfl rfl ?_
  refine gm_iload_n dX7_putRoute_11 rfl rfl ?_
  refine gm_iald dX7_putRoute_12 ce_7_7 ?_
  refine gm_leti_st (fun u2 => ?_)
  refine gm_istore (lv' := [some (.ref (E.1 7 3)), some (.int (x1)), some (.ref (E.1 n 0)), some (.int (u1)), some (.int (u2))]) dX7_putRoute_13 (by decide) rfl rfl ?_
  refine gm_aload_n dX7_putRoute_15 rfl rfl ?_
  refine gm_iload_n dX7_putRoute_16 rfl rfl ?_
  refine gm_aload_n dX7_putRoute_17 rfl rfl ?_
  refine gm_get dX7_putRoute_18 ce_7_3 rfl inX7 4 (by decide) tb_209 rfl rfl ?_
  refine gm_iload_n dX7_putRoute_21 rfl rfl ?_
  refine gm_iald dX7_putRoute_22 ce_7_8 ?_
  refine gm_iload dX7_putRoute_23 rfl ?_
  refine gm_aload_n dX7_putRoute_25 rfl rfl ?_
  refine gm_get dX7_putRoute_26 ce_7_3 rfl inX7 5 (by decide) tb_210 rfl rfl ?_
  refine gm_iload_n dX7_putRoute_29 rfl rfl ?_
  refine gm_iald dX7_putRoute_30 ce_7_9 ?_
  refine gm_aload_n dX7_putRoute_31 rfl rfl ?_
  refine gm_get dX7_putRoute_32 ce_7_3 rfl inX7 6 (by decide) tb_211 rfl rfl ?_
  refine gm_iload_n dX7_putRoute_35 rfl rfl ?_
  refine gm_iald dX7_putRoute_36 ce_7_10 ?_
  refine gm_callVk (As := [.int (u1), .int (w 7 8 (Int32.toNatClampNeg x1)), .int (u2), .int (w 7 9 (Int32.toNatClampNeg x1)), .int (w 7 10 (Int32.toNatClampNeg x1))]) dX7_putRoute_37 (tk_X4_routeRefusal n hn w u1 (w 7 8 (Int32.toNatClampNeg x1)) u2 (w 7 9 (Int32.toNatClampNeg x1)) (w 7 10 (Int32.toNatClampNeg x1))) (ce_n_0 (n := n) hn) rfl cy_X4_routeRefusal tb_889 rfl rfl (rm_ok (by decide) (by decide)) (Nat.le_of_ble_eq_true rfl) ?_
  refine gm_if_eq (tgt := 45) dX7_putRoute_40 (by decide) ?_ ?_
  · refine gm_aload_n dX7_putRoute_45 rfl rfl ?_
    refine gm_callVk (As := []) dX7_putRoute_46 (tk_X4_routeRows n hn w) (ce_n_0 (n := n) hn) rfl cy_X4_routeRows tb_890 rfl rfl (rm_ok (by decide) (by decide)) (Nat.le_of_ble_eq_true rfl) ?_
    refine gm_iload_n dX7_putRoute_49 rfl rfl ?_
    refine gm_aload_n dX7_putRoute_50 rfl rfl ?_
    refine gm_get dX7_putRoute_51 ce_7_3 rfl inX7 4 (by decide) tb_209 rfl rfl ?_
    refine gm_iload_n dX7_putRoute_54 rfl rfl ?_
    refine gm_iald dX7_putRoute_55 ce_7_8 ?_
    refine gm_iload dX7_putRoute_56 rfl ?_
    refine gm_aload_n dX7_putRoute_58 rfl rfl ?_
    refine gm_get dX7_putRoute_59 ce_7_3 rfl inX7 5 (by decide) tb_210 rfl rfl ?_
    refine gm_iload_n dX7_putRoute_62 rfl rfl ?_
    refine gm_iald dX7_putRoute_63 ce_7_9 ?_
    refine gm_aload_n dX7_putRoute_64 rfl rfl ?_
    refine gm_get dX7_putRoute_65 ce_7_3 rfl inX7 6 (by decide) tb_211 rfl rfl ?_
    refine gm_iload_n dX7_putRoute_68 rfl rfl ?_
    refine gm_iald dX7_putRoute_69 ce_7_10 ?_
    refine gm_callVi (As := [.int (u1), .int (w 7 8 (Int32.toNatClampNeg x1)), .int (u2), .int (w 7 9 (Int32.toNatClampNeg x1)), .int (w 7 10 (Int32.toNatClampNeg x1))]) dX7_putRoute_70 (t_X6_put n hn w u1 (w 7 8 (Int32.toNatClampNeg x1)) u2 (w 7 9 (Int32.toNatClampNeg x1)) (w 7 10 (Int32.toNatClampNeg x1))) (ce_n_3 (n := n) hn) rfl cy_X6_put tb_891 rfl rfl (rm_ok (by decide) (by decide)) (Nat.le_of_ble_eq_true rfl) (fun q3 => ?_)
    refine gm_pop dX7_putRoute_73 rfl ?_
    refine gm_iconst (v := 1) dX7_putRoute_74 (by decide) ?_
    exact gm_zret dX7_putRoute_75 rfl
  · refine gm_iconst (v := 0) dX7_putRoute_43 (by decide) ?_
    exact gm_zret dX7_putRoute_44 rfl

noncomputable def f_X7_putPort (n : Nat) (w : Wd) (x1 : Int32) : Option (Int32 × Wd) :=
  if ib x1 27 = true then
  if ib x1 27 = true then
  (f_X4_portRefusal n w (w 7 8 (Int32.toNatClampNeg x1)) (w 7 6 (Int32.toNatClampNeg x1))).bind fun q1 =>
  if q1.1 = 0 then
    if ib x1 27 = true then
    if ib x1 27 = true then
    (f_X5_put n q1.2 (q1.2 7 8 (Int32.toNatClampNeg x1)) (q1.2 7 6 (Int32.toNatClampNeg x1))).bind fun q2 =>
    some (1, q2.2)
    else none
    else none
  else
    some (0, q1.2)
  else none
  else none
set_option maxRecDepth 100000 in
set_option maxHeartbeats 4000000 in
theorem t_X7_putPort {l : Launch} {E : En} (n : Nat) (hn : n < 7) (w : Wd) (x1 : Int32) : ∀ q, f_X7_putPort  n w x1 = some q → Mt l E yX7_putPort cX7_putPort 3 (some .boolean) (rmk 4) [.ref (E.1 7 3), .int (x1), .ref (E.1 n 0)] w (eI q.1) q.2 := by
  refine Mt.of [some (.ref (E.1 7 3)), some (.int (x1)), some (.ref (E.1 n 0))] (plainFor_of_name pn_X7) rfl (Nat.le_of_ble_eq_true rfl) rfl ?_
  unfold f_X7_putPort
  refine gm_aload_n dX7_putPort_0 rfl rfl ?_
  refine gm_aload_n dX7_putPort_1 rfl rfl ?_
  refine gm_get dX7_putPort_2 ce_7_3 rfl inX7 4 (by decide) tb_209 rfl rfl ?_
  refine gm_iload_n dX7_putPort_5 rfl rfl ?_
  refine gm_iald dX7_putPort_6 ce_7_8 ?_
  refine gm_aload_n dX7_putPort_7 rfl rfl ?_
  refine gm_get dX7_putPort_8 ce_7_3 rfl inX7 2 (by decide) tb_207 rfl rfl ?_
  refine gm_iload_n dX7_putPort_11 rfl rfl ?_
  refine gm_iald dX7_putPort_12 ce_7_6 ?_
  refine gm_callVi (As := [.int (w 7 8 (Int32.toNatClampNeg x1)), .int (w 7 6 (Int32.toNatClampNeg x1))]) dX7_putPort_13 (t_X4_portRefusal n hn w (w 7 8 (Int32.toNatClampNeg x1)) (w 7 6 (Int32.toNatClampNeg x1))) (ce_n_0 (n := n) hn) rfl cy_X4_portRefusal tb_896 rfl rfl (rm_ok (by decide) (by decide)) (Nat.le_of_ble_eq_true rfl) (fun q1 => ?_)
  refine gm_if_eq (tgt := 21) dX7_putPort_16 (by decide) ?_ ?_
  · refine gm_aload_n dX7_putPort_21 rfl rfl ?_
    refine gm_callVk (As := []) dX7_putPort_22 (tk_X4_portRows n hn q1.2) (ce_n_0 (n := n) hn) rfl cy_X4_portRows tb_897 rfl rfl (rm_ok (by decide) (by decide)) (Nat.le_of_ble_eq_true rfl) ?_
    refine gm_aload_n dX7_putPort_25 rfl rfl ?_
    refine gm_get dX7_putPort_26 ce_7_3 rfl inX7 4 (by decide) tb_209 rfl rfl ?_
    refine gm_iload_n dX7_putPort_29 rfl rfl ?_
    refine gm_iald dX7_putPort_30 ce_7_8 ?_
    refine gm_aload_n dX7_putPort_31 rfl rfl ?_
    refine gm_get dX7_putPort_32 ce_7_3 rfl inX7 2 (by decide) tb_207 rfl rfl ?_
    refine gm_iload_n dX7_putPort_35 rfl rfl ?_
    refine gm_iald dX7_putPort_36 ce_7_6 ?_
    refine gm_callVi (As := [.int (q1.2 7 8 (Int32.toNatClampNeg x1)), .int (q1.2 7 6 (Int32.toNatClampNeg x1))]) dX7_putPort_37 (t_X5_put n hn q1.2 (q1.2 7 8 (Int32.toNatClampNeg x1)) (q1.2 7 6 (Int32.toNatClampNeg x1))) (ce_n_10 (n := n) hn) rfl cy_X5_put tb_898 rfl rfl (rm_ok (by decide) (by decide)) (Nat.le_of_ble_eq_true rfl) (fun q2 => ?_)
    refine gm_pop dX7_putPort_40 rfl ?_
    refine gm_iconst (v := 1) dX7_putPort_41 (by decide) ?_
    exact gm_zret dX7_putPort_42 rfl
  · refine gm_iconst (v := 0) dX7_putPort_19 (by decide) ?_
    exact gm_zret dX7_putPort_20 rfl

noncomputable def f_X7_letLookUp (n : Nat) (w : Wd) (x1 : Int32) : Option (Int32 × Wd) :=
  if ib x1 27 = true then
  if (p_X4_hasSwitch n w (w 7 6 (Int32.toNatClampNeg x1))) = 0 then
    some (0, w)
  else
    if ib x1 27 = true then
    (f_X4_changeLookup n w (w 7 6 (Int32.toNatClampNeg x1)) 1).bind fun q1 =>
    some (1, q1.2)
    else none
  else none
set_option maxRecDepth 100000 in
set_option maxHeartbeats 4000000 in
theorem t_X7_letLookUp {l : Launch} {E : En} (n : Nat) (hn : n < 7) (w : Wd) (x1 : Int32) : ∀ q, f_X7_letLookUp  n w x1 = some q → Mt l E yX7_letLookUp cX7_letLookUp 3 (some .boolean) (rmk 3) [.ref (E.1 7 3), .int (x1), .ref (E.1 n 0)] w (eI q.1) q.2 := by
  refine Mt.of [some (.ref (E.1 7 3)), some (.int (x1)), some (.ref (E.1 n 0))] (plainFor_of_name pn_X7) rfl (Nat.le_of_ble_eq_true rfl) rfl ?_
  unfold f_X7_letLookUp
  refine gm_aload_n dX7_letLookUp_0 rfl rfl ?_
  refine gm_aload_n dX7_letLookUp_1 rfl rfl ?_
  refine gm_get dX7_letLookUp_2 ce_7_3 rfl inX7 2 (by decide) tb_207 rfl rfl ?_
  refine gm_iload_n dX7_letLookUp_5 rfl rfl ?_
  refine gm_iald dX7_letLookUp_6 ce_7_6 ?_
  refine gm_callVk (As := [.int (w 7 6 (Int32.toNatClampNeg x1))]) dX7_letLookUp_7 (tk_X4_hasSwitch n hn w (w 7 6 (Int32.toNatClampNeg x1))) (ce_n_0 (n := n) hn) rfl cy_X4_hasSwitch tb_903 rfl rfl (rm_ok (by decide) (by decide)) (Nat.le_of_ble_eq_true rfl) ?_
  refine gm_if_ne (tgt := 15) dX7_letLookUp_10 (by decide) ?_ ?_
  · refine gm_aload_n dX7_letLookUp_15 rfl rfl ?_
    refine gm_aload_n dX7_letLookUp_16 rfl rfl ?_
    refine gm_get dX7_letLookUp_17 ce_7_3 rfl inX7 2 (by decide) tb_207 rfl rfl ?_
    refine gm_iload_n dX7_letLookUp_20 rfl rfl ?_
    refine gm_iald dX7_letLookUp_21 ce_7_6 ?_
    refine gm_iconst (v := 1) dX7_letLookUp_22 (by decide) ?_
    refine gm_callVv (As := [.int (w 7 6 (Int32.toNatClampNeg x1)), .int (1)]) dX7_letLookUp_23 (t_X4_changeLookup n hn w (w 7 6 (Int32.toNatClampNeg x1)) 1) (ce_n_0 (n := n) hn) rfl cy_X4_changeLookup tb_904 rfl rfl (rm_ok (by decide) (by decide)) (Nat.le_of_ble_eq_true rfl) (fun q1 => ?_)
    refine gm_iconst (v := 1) dX7_letLookUp_26 (by decide) ?_
    exact gm_zret dX7_letLookUp_27 rfl
  · refine gm_iconst (v := 0) dX7_letLookUp_13 (by decide) ?_
    exact gm_zret dX7_letLookUp_14 rfl

noncomputable def f_X7_carryOut (n : Nat) (w : Wd) (x1 : Int32) : Option (Int32 × Wd) :=
  if x1 < 0 then
    some (0, w)
  else
    if (w 7 3 8) ≤ x1 then
      some (0, w)
    else
      if x1 < 27 then
        if ib x1 27 = true then
        if (w 7 5 (Int32.toNatClampNeg x1)) = 114 then
          (f_X7_putRoute n w x1).bind fun q3 =>
          if zb q3.1 = true then
          some (q3.1, q3.2)
          else none
        else
          if ib x1 27 = true then
          if (w 7 5 (Int32.toNatClampNeg x1)) = 112 then
            (f_X7_putPort n w x1).bind fun q2 =>
            if zb q2.1 = true then
            some (q2.1, q2.2)
            else none
          else
            (f_X7_letLookUp n w x1).bind fun q1 =>
            if zb q1.1 = true then
            some (q1.1, q1.2)
            else none
          else none
        else none
      else
        some (0, w)
set_option maxRecDepth 100000 in
set_option maxHeartbeats 4000000 in
theorem t_X7_carryOut {l : Launch} {E : En} (n : Nat) (hn : n < 7) (w : Wd) (x1 : Int32) : ∀ q, f_X7_carryOut  n w x1 = some q → Mt l E yX7_carryOut cX7_carryOut 3 (some .boolean) (rmk 5) [.ref (E.1 7 3), .int (x1), .ref (E.1 n 0)] w (eI q.1) q.2 := by
  refine Mt.of [some (.ref (E.1 7 3)), some (.int (x1)), some (.ref (E.1 n 0))] (plainFor_of_name pn_X7) rfl (Nat.le_of_ble_eq_true rfl) rfl ?_
  unfold f_X7_carryOut
  refine gm_iload_n dX7_carryOut_0 rfl rfl ?_
  refine gm_if_lt (tgt := 18) dX7_carryOut_1 (by decide) ?_ ?_
  · refine gm_iconst (v := 0) dX7_carryOut_18 (by decide) ?_
    exact gm_zret dX7_carryOut_19 rfl
  · refine gm_iload_n dX7_carryOut_4 rfl rfl ?_
    refine gm_aload_n dX7_carryOut_5 rfl rfl ?_
    refine gm_get dX7_carryOut_6 ce_7_3 rfl inX7 8 (by decide) tb_213 rfl rfl ?_
    refine gm_icmp_ge (tgt := 18) dX7_carryOut_9 (by decide) ?_ ?_
    · refine gm_iconst (v := 0) dX7_carryOut_18 (by decide) ?_
      exact gm_zret dX7_carryOut_19 rfl
    · refine gm_iload_n dX7_carryOut_12 rfl rfl ?_
      refine gm_bipush (v := 27) dX7_carryOut_13 (by decide) ?_
      refine gm_icmp_lt (tgt := 20) dX7_carryOut_15 (by decide) ?_ ?_
      · refine gm_aload_n dX7_carryOut_20 rfl rfl ?_
        refine gm_get dX7_carryOut_21 ce_7_3 rfl inX7 1 (by decide) tb_206 rfl rfl ?_
        refine gm_iload_n dX7_carryOut_24 rfl rfl ?_
        refine gm_cald dX7_carryOut_25 ce_7_5 ?_
        refine gm_bipush (v := 114) dX7_carryOut_26 (by decide) ?_
        refine gm_icmp_ne (tgt := 38) dX7_carryOut_28 (by decide) ?_ ?_
        · refine gm_aload_n dX7_carryOut_38 rfl rfl ?_
          refine gm_get dX7_carryOut_39 ce_7_3 rfl inX7 1 (by decide) tb_206 rfl rfl ?_
          refine gm_iload_n dX7_carryOut_42 rfl rfl ?_
          refine gm_cald dX7_carryOut_43 ce_7_5 ?_
          refine gm_bipush (v := 112) dX7_carryOut_44 (by decide) ?_
          refine gm_icmp_ne (tgt := 58) dX7_carryOut_46 (by decide) ?_ ?_
          · refine gm_aload_n dX7_carryOut_58 rfl rfl ?_
            refine gm_iload_n dX7_carryOut_59 rfl rfl ?_
            refine gm_aload_n dX7_carryOut_60 rfl rfl ?_
            refine gm_callVi (As := [.int (x1), .ref (E.1 n 0)]) dX7_carryOut_61 (t_X7_letLookUp n hn w x1) ce_7_3 rfl cy_X7_letLookUp tb_899 rfl rfl (rm_ok (by decide) (by decide)) (Nat.le_of_ble_eq_true rfl) (fun q1 => ?_)
            exact gm_zret_g dX7_carryOut_64
          · refine gm_aload_n dX7_carryOut_49 rfl rfl ?_
            refine gm_iload_n dX7_carryOut_50 rfl rfl ?_
            refine gm_aload_n dX7_carryOut_51 rfl rfl ?_
            refine gm_callVi (As := [.int (x1), .ref (E.1 n 0)]) dX7_carryOut_52 (t_X7_putPort n hn w x1) ce_7_3 rfl cy_X7_putPort tb_892 rfl rfl (rm_ok (by decide) (by decide)) (Nat.le_of_ble_eq_true rfl) (fun q2 => ?_)
            refine gm_goto (tgt := 64) dX7_carryOut_55 (by decide) ?_
            exact gm_zret_g dX7_carryOut_64
        · refine gm_aload_n dX7_carryOut_31 rfl rfl ?_
          refine gm_iload_n dX7_carryOut_32 rfl rfl ?_
          refine gm_aload_n dX7_carryOut_33 rfl rfl ?_
          refine gm_callVi (As := [.int (x1), .ref (E.1 n 0)]) dX7_carryOut_34 (t_X7_putRoute n hn w x1) ce_7_3 rfl cy_X7_putRoute tb_885 rfl rfl (rm_ok (by decide) (by decide)) (Nat.le_of_ble_eq_true rfl) (fun q3 => ?_)
          exact gm_zret_g dX7_carryOut_37
      · refine gm_iconst (v := 0) dX7_carryOut_18 (by decide) ?_
        exact gm_zret dX7_carryOut_19 rfl

noncomputable def f_X7_commandCount (w : Wd) : Option (Int32 × Wd) :=
  some (w 7 3 8, w)
set_option maxRecDepth 100000 in
set_option maxHeartbeats 4000000 in
theorem t_X7_commandCount {l : Launch} {E : En} (w : Wd) : ∀ q, f_X7_commandCount   w  = some q → Mt l E yX7_commandCount cX7_commandCount 1 (some .int) (rmk 1) [.ref (E.1 7 3)] w (eI q.1) q.2 := by
  refine Mt.of [some (.ref (E.1 7 3))] (plainFor_of_name pn_X7) rfl (Nat.le_of_ble_eq_true rfl) rfl ?_
  unfold f_X7_commandCount
  refine gm_aload_n dX7_commandCount_0 rfl rfl ?_
  refine gm_get dX7_commandCount_1 ce_7_3 rfl inX7 8 (by decide) tb_213 rfl rfl ?_
  exact gm_iret dX7_commandCount_4
noncomputable def p_X7_commandCount (w : Wd) : Int32 :=
  w 7 3 8
theorem fp_X7_commandCount (w : Wd) : f_X7_commandCount  w  = some (p_X7_commandCount  w , w) := by
  unfold f_X7_commandCount p_X7_commandCount
  (try simp only [leti, letl])
  repeat' (first | rfl | split)
theorem tk_X7_commandCount {l : Launch} {E : En} (w : Wd) : Mt l E yX7_commandCount cX7_commandCount 1 (some .int) (rmk 1) [.ref (E.1 7 3)] w (some (.int (p_X7_commandCount  w ))) w := t_X7_commandCount   w  _ (fp_X7_commandCount  w )

noncomputable def f_X7_empty (w : Wd) : Option (Unit × Wd) :=
  letw (wup w 7 3 7 0) fun w1 =>
  some ((), w1)
set_option maxRecDepth 100000 in
set_option maxHeartbeats 4000000 in
theorem t_X7_empty {l : Launch} {E : En} (w : Wd) : ∀ q, f_X7_empty   w  = some q → Mt l E yX7_empty cX7_empty 1 none (rmk 1) [.ref (E.1 7 3)] w (eV q.1) q.2 := by
  refine Mt.of [some (.ref (E.1 7 3))] (plainFor_of_name pn_X7) rfl (Nat.le_of_ble_eq_true rfl) rfl ?_
  unfold f_X7_empty
  refine gm_aload_n dX7_empty_0 rfl rfl ?_
  refine gm_iconst (v := 0) dX7_empty_1 (by decide) ?_
  refine gm_put dX7_empty_2 ce_7_3 rfl inX7 tyX7 tyX7_ok nmX7 7 (by decide) tb_212 rfl rfl (by decide +kernel) (fun _ => rfl) (fun _ => rfl) (fun w1 => ?_)
  exact gm_vret dX7_empty_5

noncomputable def f_X7_errorPlace (w : Wd) : Option (Int32 × Wd) :=
  some (w 7 3 9, w)
set_option maxRecDepth 100000 in
set_option maxHeartbeats 4000000 in
theorem t_X7_errorPlace {l : Launch} {E : En} (w : Wd) : ∀ q, f_X7_errorPlace   w  = some q → Mt l E yX7_errorPlace cX7_errorPlace 1 (some .int) (rmk 1) [.ref (E.1 7 3)] w (eI q.1) q.2 := by
  refine Mt.of [some (.ref (E.1 7 3))] (plainFor_of_name pn_X7) rfl (Nat.le_of_ble_eq_true rfl) rfl ?_
  unfold f_X7_errorPlace
  refine gm_aload_n dX7_errorPlace_0 rfl rfl ?_
  refine gm_get dX7_errorPlace_1 ce_7_3 rfl inX7 9 (by decide) tb_214 rfl rfl ?_
  exact gm_iret dX7_errorPlace_4
noncomputable def p_X7_errorPlace (w : Wd) : Int32 :=
  w 7 3 9
theorem fp_X7_errorPlace (w : Wd) : f_X7_errorPlace  w  = some (p_X7_errorPlace  w , w) := by
  unfold f_X7_errorPlace p_X7_errorPlace
  (try simp only [leti, letl])
  repeat' (first | rfl | split)
theorem tk_X7_errorPlace {l : Launch} {E : En} (w : Wd) : Mt l E yX7_errorPlace cX7_errorPlace 1 (some .int) (rmk 1) [.ref (E.1 7 3)] w (some (.int (p_X7_errorPlace  w ))) w := t_X7_errorPlace   w  _ (fp_X7_errorPlace  w )

noncomputable def f_X7_sign (w : Wd) : Option (Int32 × Wd) :=
  if (w 7 3 9) < 0 then
    some (0, w)
  else
    if (w 7 3 7) ≤ (w 7 3 9) then
      some (0, w)
    else
      if 80 ≤ (w 7 3 9) then
        some (0, w)
      else
        if ib (w 7 3 9) 80 = true then
        if cb (w 7 4 (Int32.toNatClampNeg (w 7 3 9))) = true then
        some (w 7 4 (Int32.toNatClampNeg (w 7 3 9)), w)
        else none
        else none
set_option maxRecDepth 100000 in
set_option maxHeartbeats 4000000 in
theorem t_X7_sign {l : Launch} {E : En} (w : Wd) : ∀ q, f_X7_sign   w  = some q → Mt l E yX7_sign cX7_sign 1 (some .char) (rmk 1) [.ref (E.1 7 3)] w (eI q.1) q.2 := by
  refine Mt.of [some (.ref (E.1 7 3))] (plainFor_of_name pn_X7) rfl (Nat.le_of_ble_eq_true rfl) rfl ?_
  unfold f_X7_sign
  refine gm_aload_n dX7_sign_0 rfl rfl ?_
  refine gm_get dX7_sign_1 ce_7_3 rfl inX7 9 (by decide) tb_214 rfl rfl ?_
  refine gm_if_lt (tgt := 39) dX7_sign_4 (by decide) ?_ ?_
  · refine gm_iconst (v := 0) dX7_sign_39 (by decide) ?_
    exact gm_zret dX7_sign_40 rfl
  · refine gm_aload_n dX7_sign_7 rfl rfl ?_
    refine gm_get dX7_sign_8 ce_7_3 rfl inX7 9 (by decide) tb_214 rfl rfl ?_
    refine gm_aload_n dX7_sign_11 rfl rfl ?_
    refine gm_get dX7_sign_12 ce_7_3 rfl inX7 7 (by decide) tb_212 rfl rfl ?_
    refine gm_icmp_ge (tgt := 39) dX7_sign_15 (by decide) ?_ ?_
    · refine gm_iconst (v := 0) dX7_sign_39 (by decide) ?_
      exact gm_zret dX7_sign_40 rfl
    · refine gm_aload_n dX7_sign_18 rfl rfl ?_
      refine gm_get dX7_sign_19 ce_7_3 rfl inX7 9 (by decide) tb_214 rfl rfl ?_
      refine gm_bipush (v := 80) dX7_sign_22 (by decide) ?_
      refine gm_icmp_ge (tgt := 39) dX7_sign_24 (by decide) ?_ ?_
      · refine gm_iconst (v := 0) dX7_sign_39 (by decide) ?_
        exact gm_zret dX7_sign_40 rfl
      · refine gm_aload_n dX7_sign_27 rfl rfl ?_
        refine gm_get dX7_sign_28 ce_7_3 rfl inX7 0 (by decide) tb_205 rfl rfl ?_
        refine gm_aload_n dX7_sign_31 rfl rfl ?_
        refine gm_get dX7_sign_32 ce_7_3 rfl inX7 9 (by decide) tb_214 rfl rfl ?_
        refine gm_cald dX7_sign_35 ce_7_4 ?_
        refine gm_goto (tgt := 40) dX7_sign_36 (by decide) ?_
        exact gm_cret_g dX7_sign_40

noncomputable def f_X7_isDigit (w : Wd) : Option (Int32 × Wd) :=
  (f_X7_sign w).bind fun q1 =>
  if q1.1 < 48 then
    some (0, q1.2)
  else
    (f_X7_sign q1.2).bind fun q2 =>
    if 57 < q2.1 then
      some (0, q2.2)
    else
      some (1, q2.2)
set_option maxRecDepth 100000 in
set_option maxHeartbeats 4000000 in
theorem t_X7_isDigit {l : Launch} {E : En} (w : Wd) : ∀ q, f_X7_isDigit   w  = some q → Mt l E yX7_isDigit cX7_isDigit 1 (some .boolean) (rmk 2) [.ref (E.1 7 3)] w (eI q.1) q.2 := by
  refine Mt.of [some (.ref (E.1 7 3))] (plainFor_of_name pn_X7) rfl (Nat.le_of_ble_eq_true rfl) rfl ?_
  unfold f_X7_isDigit
  refine gm_aload_n dX7_isDigit_0 rfl rfl ?_
  refine gm_callVi (As := []) dX7_isDigit_1 (t_X7_sign w) ce_7_3 rfl cy_X7_sign tb_840 rfl rfl (rm_ok (by decide) (by decide)) (Nat.le_of_ble_eq_true rfl) (fun q1 => ?_)
  refine gm_bipush (v := 48) dX7_isDigit_4 (by decide) ?_
  refine gm_icmp_lt (tgt := 22) dX7_isDigit_6 (by decide) ?_ ?_
  · refine gm_iconst (v := 0) dX7_isDigit_22 (by decide) ?_
    exact gm_zret dX7_isDigit_23 rfl
  · refine gm_aload_n dX7_isDigit_9 rfl rfl ?_
    refine gm_callVi (As := []) dX7_isDigit_10 (t_X7_sign q1.2) ce_7_3 rfl cy_X7_sign tb_840 rfl rfl (rm_ok (by decide) (by decide)) (Nat.le_of_ble_eq_true rfl) (fun q2 => ?_)
    refine gm_bipush (v := 57) dX7_isDigit_13 (by decide) ?_
    refine gm_icmp_gt (tgt := 22) dX7_isDigit_15 (by decide) ?_ ?_
    · refine gm_iconst (v := 0) dX7_isDigit_22 (by decide) ?_
      exact gm_zret dX7_isDigit_23 rfl
    · refine gm_iconst (v := 1) dX7_isDigit_18 (by decide) ?_
      refine gm_goto (tgt := 23) dX7_isDigit_19 (by decide) ?_
      exact gm_zret dX7_isDigit_23 rfl

noncomputable def f_X7_skip (w : Wd) (x1 : Int32) : Option (Int32 × Wd) :=
  (f_X7_sign w).bind fun q1 =>
  if q1.1 = x1 then
    letw (wup q1.2 7 3 9 (((q1.2) 7 3 9) + 1)) fun w2 =>
    some (1, w2)
  else
    some (0, q1.2)
set_option maxRecDepth 100000 in
set_option maxHeartbeats 4000000 in
theorem t_X7_skip {l : Launch} {E : En} (w : Wd) (x1 : Int32) : ∀ q, f_X7_skip   w x1 = some q → Mt l E yX7_skip cX7_skip 2 (some .boolean) (rmk 2) [.ref (E.1 7 3), .int (x1)] w (eI q.1) q.2 := by
  refine Mt.of [some (.ref (E.1 7 3)), some (.int (x1))] (plainFor_of_name pn_X7) rfl (Nat.le_of_ble_eq_true rfl) rfl ?_
  unfold f_X7_skip
  refine gm_aload_n dX7_skip_0 rfl rfl ?_
  refine gm_callVi (As := []) dX7_skip_1 (t_X7_sign w) ce_7_3 rfl cy_X7_sign tb_840 rfl rfl (rm_ok (by decide) (by decide)) (Nat.le_of_ble_eq_true rfl) (fun q1 => ?_)
  refine gm_iload_n dX7_skip_4 rfl rfl ?_
  refine gm_icmp_eq (tgt := 10) dX7_skip_5 (by decide) ?_ ?_
  · refine gm_aload_n dX7_skip_10 rfl rfl ?_
    refine gm_dup dX7_skip_11 rfl ?_
    refine gm_get dX7_skip_12 ce_7_3 rfl inX7 9 (by decide) tb_214 rfl rfl ?_
    refine gm_iconst (v := 1) dX7_skip_15 (by decide) ?_
    refine gm_iadd dX7_skip_16 ?_
    refine gm_put dX7_skip_17 ce_7_3 rfl inX7 tyX7 tyX7_ok nmX7 9 (by decide) tb_214 rfl rfl (by decide +kernel) (fun _ => rfl) (fun _ => rfl) (fun w2 => ?_)
    refine gm_iconst (v := 1) dX7_skip_20 (by decide) ?_
    exact gm_zret dX7_skip_21 rfl
  · refine gm_iconst (v := 0) dX7_skip_8 (by decide) ?_
    exact gm_zret dX7_skip_9 rfl

noncomputable def f_X7_readDigit (w : Wd) : Option (Int32 × Wd) :=
  (f_X7_isDigit w).bind fun q1 =>
  if q1.1 = 0 then
    some ((-9), q1.2)
  else
    (f_X7_sign q1.2).bind fun q2 =>
    leti (q2.1 - 48) fun u3 =>
    letw (wup q2.2 7 3 9 (((q2.2) 7 3 9) + 1)) fun w4 =>
    some (u3, w4)
set_option maxRecDepth 100000 in
set_option maxHeartbeats 4000000 in
theorem t_X7_readDigit {l : Launch} {E : En} (w : Wd) : ∀ q, f_X7_readDigit   w  = some q → Mt l E yX7_readDigit cX7_readDigit 2 (some .int) (rmk 3) [.ref (E.1 7 3)] w (eI q.1) q.2 := by
  refine Mt.of [some (.ref (E.1 7 3)), none] (plainFor_of_name pn_X7) rfl (Nat.le_of_ble_eq_true rfl) rfl ?_
  unfold f_X7_readDigit
  refine gm_aload_n dX7_readDigit_0 rfl rfl ?_
  refine gm_callVi (As := []) dX7_readDigit_1 (t_X7_isDigit w) ce_7_3 rfl cy_X7_isDigit tb_860 rfl rfl (rm_ok (by decide) (by decide)) (Nat.le_of_ble_eq_true rfl) (fun q1 => ?_)
  refine gm_if_ne (tgt := 10) dX7_readDigit_4 (by decide) ?_ ?_
  · refine gm_aload_n dX7_readDigit_10 rfl rfl ?_
    refine gm_callVi (As := []) dX7_readDigit_11 (t_X7_sign q1.2) ce_7_3 rfl cy_X7_sign tb_840 rfl rfl (rm_ok (by decide) (by decide)) (Nat.le_of_ble_eq_true rfl) (fun q2 => ?_)
    refine gm_bipush (v := 48) dX7_readDigit_14 (by decide) ?_
    refine gm_isub dX7_readDigit_16 ?_
    refine gm_leti_st (fun u3 => ?_)
    refine gm_istore_n (lv' := [some (.ref (E.1 7 3)), some (.int (u3))]) dX7_readDigit_17 rfl (by decide) rfl rfl ?_
    refine gm_aload_n dX7_readDigit_18 rfl rfl ?_
    refine gm_dup dX7_readDigit_19 rfl ?_
    refine gm_get dX7_readDigit_20 ce_7_3 rfl inX7 9 (by decide) tb_214 rfl rfl ?_
    refine gm_iconst (v := 1) dX7_readDigit_23 (by decide) ?_
    refine gm_iadd dX7_readDigit_24 ?_
    refine gm_put dX7_readDigit_25 ce_7_3 rfl inX7 tyX7 tyX7_ok nmX7 9 (by decide) tb_214 rfl rfl (by decide +kernel) (fun _ => rfl) (fun _ => rfl) (fun w4 => ?_)
    refine gm_iload_n dX7_readDigit_28 rfl rfl ?_
    exact gm_iret dX7_readDigit_29
  · refine gm_bipush (v := (-9)) dX7_readDigit_7 (by decide) ?_
    exact gm_iret dX7_readDigit_9

noncomputable def f_X7_readSwitch (w : Wd) (x1 : Int32) : Option (Int32 × Wd) :=
  (f_X7_readDigit w).bind fun q1 =>
  if ib x1 27 = true then
  letw (wup q1.2 7 6 (Int32.toNatClampNeg x1) q1.1) fun w2 =>
  if ib x1 27 = true then
  if (w2 7 6 (Int32.toNatClampNeg x1)) = (-9) then
    some (0, w2)
  else
    some (1, w2)
  else none
  else none
set_option maxRecDepth 100000 in
set_option maxHeartbeats 4000000 in
theorem t_X7_readSwitch {l : Launch} {E : En} (w : Wd) (x1 : Int32) : ∀ q, f_X7_readSwitch   w x1 = some q → Mt l E yX7_readSwitch cX7_readSwitch 2 (some .boolean) (rmk 4) [.ref (E.1 7 3), .int (x1)] w (eI q.1) q.2 := by
  refine Mt.of [some (.ref (E.1 7 3)), some (.int (x1))] (plainFor_of_name pn_X7) rfl (Nat.le_of_ble_eq_true rfl) rfl ?_
  unfold f_X7_readSwitch
  refine gm_aload_n dX7_readSwitch_0 rfl rfl ?_
  refine gm_get dX7_readSwitch_1 ce_7_3 rfl inX7 2 (by decide) tb_207 rfl rfl ?_
  refine gm_iload_n dX7_readSwitch_4 rfl rfl ?_
  refine gm_aload_n dX7_readSwitch_5 rfl rfl ?_
  refine gm_callVi (As := []) dX7_readSwitch_6 (t_X7_readDigit w) ce_7_3 rfl cy_X7_readDigit tb_856 rfl rfl (rm_ok (by decide) (by decide)) (Nat.le_of_ble_eq_true rfl) (fun q1 => ?_)
  refine gm_iast dX7_readSwitch_9 ce_7_6 (fun w2 => ?_)
  refine gm_aload_n dX7_readSwitch_10 rfl rfl ?_
  refine gm_get dX7_readSwitch_11 ce_7_3 rfl inX7 2 (by decide) tb_207 rfl rfl ?_
  refine gm_iload_n dX7_readSwitch_14 rfl rfl ?_
  refine gm_iald dX7_readSwitch_15 ce_7_6 ?_
  refine gm_bipush (v := (-9)) dX7_readSwitch_16 (by decide) ?_
  refine gm_icmp_eq (tgt := 25) dX7_readSwitch_18 (by decide) ?_ ?_
  · refine gm_iconst (v := 0) dX7_readSwitch_25 (by decide) ?_
    exact gm_zret dX7_readSwitch_26 rfl
  · refine gm_iconst (v := 1) dX7_readSwitch_21 (by decide) ?_
    refine gm_goto (tgt := 26) dX7_readSwitch_22 (by decide) ?_
    exact gm_zret dX7_readSwitch_26 rfl

noncomputable def b_X7_readDigits_4 (rc4 : Wd → Int32 → Int32 → Int32 → Option (Int32 × Wd)) (w : Wd) (y1 : Int32) (y2 : Int32) (y3 : Int32) : Option (Int32 × Wd) :=
  if y1 ≤ y3 then
    some (y2, w)
  else
    (f_X7_isDigit w).bind fun q1 =>
    if q1.1 = 0 then
      some (y2, q1.2)
    else
      (f_X7_sign q1.2).bind fun q2 =>
      leti ((10 * y2) + (q2.1 - 48)) fun u3 =>
      letw (wup q2.2 7 3 9 (((q2.2) 7 3 9) + 1)) fun w4 =>
      rc4 w4 y1 u3 (y3 + 1)
set_option maxRecDepth 100000 in
set_option maxHeartbeats 4000000 in
theorem kb_X7_readDigits_4 {l : Launch} {E : En} (rc4 : Wd → Int32 → Int32 → Int32 → Option (Int32 × Wd)) (hrc4 : ∀ (w : Wd) (y1 : Int32) (y2 : Int32) (y3 : Int32), Gm l E cX7_readDigits 4 RX7 (some .int) (rmk (3)) eI (rc4 w y1 y2 y3) w 4 [some (.ref (E.1 7 3)), some (.int (y1)), some (.int (y2)), some (.int (y3))] []) (w : Wd) (y1 : Int32) (y2 : Int32) (y3 : Int32) : Gm l E cX7_readDigits 4 RX7 (some .int) (rmk (3)) eI (b_X7_readDigits_4   rc4 w y1 y2 y3) w 4 [some (.ref (E.1 7 3)), some (.int (y1)), some (.int (y2)), some (.int (y3))] [] := by
  unfold b_X7_readDigits_4
  refine gm_iload_n dX7_readDigits_4 rfl rfl ?_
  refine gm_iload_n dX7_readDigits_5 rfl rfl ?_
  refine gm_icmp_ge (tgt := 45) dX7_readDigits_6 (by decide) ?_ ?_
  · refine gm_iload_n dX7_readDigits_45 rfl rfl ?_
    exact gm_iret dX7_readDigits_46
  · refine gm_aload_n dX7_readDigits_9 rfl rfl ?_
    refine gm_callVi (As := []) dX7_readDigits_10 (t_X7_isDigit w) ce_7_3 rfl cy_X7_isDigit tb_860 rfl rfl (rm_ok (by decide) (by decide)) (Nat.le_of_ble_eq_true rfl) (fun q1 => ?_)
    refine gm_if_eq (tgt := 45) dX7_readDigits_13 (by decide) ?_ ?_
    · refine gm_iload_n dX7_readDigits_45 rfl rfl ?_
      exact gm_iret dX7_readDigits_46
    · refine gm_bipush (v := 10) dX7_readDigits_16 (by decide) ?_
      refine gm_iload_n dX7_readDigits_18 rfl rfl ?_
      refine gm_imul dX7_readDigits_19 ?_
      refine gm_aload_n dX7_readDigits_20 rfl rfl ?_
      refine gm_callVi (As := []) dX7_readDigits_21 (t_X7_sign q1.2) ce_7_3 rfl cy_X7_sign tb_840 rfl rfl (rm_ok (by decide) (by decide)) (Nat.le_of_ble_eq_true rfl) (fun q2 => ?_)
      refine gm_bipush (v := 48) dX7_readDigits_24 (by decide) ?_
      refine gm_isub dX7_readDigits_26 ?_
      refine gm_iadd dX7_readDigits_27 ?_
      refine gm_leti_st (fun u3 => ?_)
      refine gm_istore_n (lv' := [some (.ref (E.1 7 3)), some (.int (y1)), some (.int (u3)), some (.int (y3))]) dX7_readDigits_28 rfl (by decide) rfl rfl ?_
      refine gm_aload_n dX7_readDigits_29 rfl rfl ?_
      refine gm_dup dX7_readDigits_30 rfl ?_
      refine gm_get dX7_readDigits_31 ce_7_3 rfl inX7 9 (by decide) tb_214 rfl rfl ?_
      refine gm_iconst (v := 1) dX7_readDigits_34 (by decide) ?_
      refine gm_iadd dX7_readDigits_35 ?_
      refine gm_put dX7_readDigits_36 ce_7_3 rfl inX7 tyX7 tyX7_ok nmX7 9 (by decide) tb_214 rfl rfl (by decide +kernel) (fun _ => rfl) (fun _ => rfl) (fun w4 => ?_)
      refine gm_iinc (v := 1) (lv' := [some (.ref (E.1 7 3)), some (.int (y1)), some (.int (u3)), some (.int (y3 + 1))]) dX7_readDigits_39 rfl (by decide) (by decide) rfl rfl ?_
      refine gm_goto (tgt := 4) dX7_readDigits_42 (by decide) ?_
      exact gm_weak (lsub_s (lsub_s (lsub_s (lsub_s lsub_0)))) (hrc4 w4 y1 u3 (y3 + 1))
noncomputable def h_X7_readDigits_4 : Nat → (Wd → Int32 → Int32 → Int32 → Option (Int32 × Wd))
  | 0 => fun _ _ _ _ => none
  | fu + 1 => b_X7_readDigits_4    (h_X7_readDigits_4    fu)
set_option maxRecDepth 100000 in
set_option maxHeartbeats 4000000 in
theorem k_X7_readDigits_4 {l : Launch} {E : En} : ∀ (fu : Nat) (w : Wd) (y1 : Int32) (y2 : Int32) (y3 : Int32), Gm l E cX7_readDigits 4 RX7 (some .int) (rmk (3)) eI (h_X7_readDigits_4    fu w y1 y2 y3) w 4 [some (.ref (E.1 7 3)), some (.int (y1)), some (.int (y2)), some (.int (y3))] []
  | 0, _, _, _, _ => gm_none
  | fu + 1, w, y1, y2, y3 => kb_X7_readDigits_4     (h_X7_readDigits_4    fu)  (fun w y1 y2 y3 => k_X7_readDigits_4      fu w y1 y2 y3) w y1 y2 y3
noncomputable def f_X7_readDigits (w : Wd) (x1 : Int32) : Option (Int32 × Wd) :=
  h_X7_readDigits_4 FU w x1 0 0
set_option maxRecDepth 100000 in
set_option maxHeartbeats 4000000 in
theorem t_X7_readDigits {l : Launch} {E : En} (w : Wd) (x1 : Int32) : ∀ q, f_X7_readDigits   w x1 = some q → Mt l E yX7_readDigits cX7_readDigits 4 (some .int) (rmk 3) [.ref (E.1 7 3), .int (x1)] w (eI q.1) q.2 := by
  refine Mt.of [some (.ref (E.1 7 3)), some (.int (x1)), none, none] (plainFor_of_name pn_X7) rfl (Nat.le_of_ble_eq_true rfl) rfl ?_
  unfold f_X7_readDigits
  refine gm_iconst (v := 0) dX7_readDigits_0 (by decide) ?_
  refine gm_istore_n (lv' := [some (.ref (E.1 7 3)), some (.int (x1)), some (.int (0)), none]) dX7_readDigits_1 rfl (by decide) rfl rfl ?_
  refine gm_iconst (v := 0) dX7_readDigits_2 (by decide) ?_
  refine gm_istore_n (lv' := [some (.ref (E.1 7 3)), some (.int (x1)), some (.int (0)), some (.int (0))]) dX7_readDigits_3 rfl (by decide) rfl rfl ?_
  exact gm_weak (lsub_s (lsub_s (lsub_s (lsub_s lsub_0)))) (k_X7_readDigits_4 FU w x1 0 0)

noncomputable def j_X7_readRoute_75 (w : Wd) (y1 : Int32) (z1 : Int32) (z2 : Int32) : Option (Int32 × Wd) :=
  if ib z1 27 = true then
  letw (wup w 7 8 (Int32.toNatClampNeg z1) z2) fun w8 =>
  (f_X7_skip w8 64).bind fun q9 =>
  if q9.1 = 0 then
    some (0, q9.2)
  else
    (f_X7_isDigit q9.2).bind fun q10 =>
    if q10.1 = 0 then
      some (0, q10.2)
    else
      (f_X7_readDigits q10.2 4).bind fun q11 =>
      if ib y1 27 = true then
      letw (wup q11.2 7 9 (Int32.toNatClampNeg y1) q11.1) fun w12 =>
      (f_X7_skip w12 120).bind fun q13 =>
      if q13.1 = 0 then
        some (0, q13.2)
      else
        (f_X7_isDigit q13.2).bind fun q14 =>
        if q14.1 = 0 then
          some (0, q14.2)
        else
          (f_X7_readDigits q14.2 4).bind fun q15 =>
          if ib y1 27 = true then
          letw (wup q15.2 7 10 (Int32.toNatClampNeg y1) q15.1) fun w16 =>
          some (1, w16)
          else none
      else none
  else none
set_option maxRecDepth 100000 in
set_option maxHeartbeats 4000000 in
theorem k_X7_readRoute_75 {l : Launch} {E : En} (w : Wd) (y1 : Int32) (z1 : Int32) (z2 : Int32) : Gm l E cX7_readRoute 2 RX7 (some .boolean) (rmk (5)) eI (j_X7_readRoute_75    w y1 z1 z2) w 75 [some (.ref (E.1 7 3)), some (.int (y1))] [.int (z2), .int (z1), .ref (E.1 7 8)] := by
  unfold j_X7_readRoute_75
  refine gm_iast dX7_readRoute_75 ce_7_8 (fun w8 => ?_)
  refine gm_aload_n dX7_readRoute_76 rfl rfl ?_
  refine gm_bipush (v := 64) dX7_readRoute_77 (by decide) ?_
  refine gm_callVi (As := [.int (64)]) dX7_readRoute_79 (t_X7_skip w8 64) ce_7_3 rfl cy_X7_skip tb_844 rfl rfl (rm_ok (by decide) (by decide)) (Nat.le_of_ble_eq_true rfl) (fun q9 => ?_)
  refine gm_if_eq (tgt := 92) dX7_readRoute_82 (by decide) ?_ ?_
  · refine gm_iconst (v := 0) dX7_readRoute_92 (by decide) ?_
    exact gm_zret dX7_readRoute_93 rfl
  · refine gm_aload_n dX7_readRoute_85 rfl rfl ?_
    refine gm_callVi (As := []) dX7_readRoute_86 (t_X7_isDigit q9.2) ce_7_3 rfl cy_X7_isDigit tb_860 rfl rfl (rm_ok (by decide) (by decide)) (Nat.le_of_ble_eq_true rfl) (fun q10 => ?_)
    refine gm_if_ne (tgt := 94) dX7_readRoute_89 (by decide) ?_ ?_
    · refine gm_aload_n dX7_readRoute_94 rfl rfl ?_
      refine gm_get dX7_readRoute_95 ce_7_3 rfl inX7 5 (by decide) tb_210 rfl rfl ?_
      refine gm_iload_n dX7_readRoute_98 rfl rfl ?_
      refine gm_aload_n dX7_readRoute_99 rfl rfl ?_
      refine gm_iconst (v := 4) dX7_readRoute_100 (by decide) ?_
      refine gm_callVi (As := [.int (4)]) dX7_readRoute_101 (t_X7_readDigits q10.2 4) ce_7_3 rfl cy_X7_readDigits tb_864 rfl rfl (rm_ok (by decide) (by decide)) (Nat.le_of_ble_eq_true rfl) (fun q11 => ?_)
      refine gm_iast dX7_readRoute_104 ce_7_9 (fun w12 => ?_)
      refine gm_aload_n dX7_readRoute_105 rfl rfl ?_
      refine gm_bipush (v := 120) dX7_readRoute_106 (by decide) ?_
      refine gm_callVi (As := [.int (120)]) dX7_readRoute_108 (t_X7_skip w12 120) ce_7_3 rfl cy_X7_skip tb_844 rfl rfl (rm_ok (by decide) (by decide)) (Nat.le_of_ble_eq_true rfl) (fun q13 => ?_)
      refine gm_if_eq (tgt := 121) dX7_readRoute_111 (by decide) ?_ ?_
      · refine gm_iconst (v := 0) dX7_readRoute_121 (by decide) ?_
        exact gm_zret dX7_readRoute_122 rfl
      · refine gm_aload_n dX7_readRoute_114 rfl rfl ?_
        refine gm_callVi (As := []) dX7_readRoute_115 (t_X7_isDigit q13.2) ce_7_3 rfl cy_X7_isDigit tb_860 rfl rfl (rm_ok (by decide) (by decide)) (Nat.le_of_ble_eq_true rfl) (fun q14 => ?_)
        refine gm_if_ne (tgt := 123) dX7_readRoute_118 (by decide) ?_ ?_
        · refine gm_aload_n dX7_readRoute_123 rfl rfl ?_
          refine gm_get dX7_readRoute_124 ce_7_3 rfl inX7 6 (by decide) tb_211 rfl rfl ?_
          refine gm_iload_n dX7_readRoute_127 rfl rfl ?_
          refine gm_aload_n dX7_readRoute_128 rfl rfl ?_
          refine gm_iconst (v := 4) dX7_readRoute_129 (by decide) ?_
          refine gm_callVi (As := [.int (4)]) dX7_readRoute_130 (t_X7_readDigits q14.2 4) ce_7_3 rfl cy_X7_readDigits tb_864 rfl rfl (rm_ok (by decide) (by decide)) (Nat.le_of_ble_eq_true rfl) (fun q15 => ?_)
          refine gm_iast dX7_readRoute_133 ce_7_10 (fun w16 => ?_)
          refine gm_iconst (v := 1) dX7_readRoute_134 (by decide) ?_
          exact gm_zret dX7_readRoute_135 rfl
        · refine gm_iconst (v := 0) dX7_readRoute_121 (by decide) ?_
          exact gm_zret dX7_readRoute_122 rfl
    · refine gm_iconst (v := 0) dX7_readRoute_92 (by decide) ?_
      exact gm_zret dX7_readRoute_93 rfl
noncomputable def f_X7_readRoute (w : Wd) (x1 : Int32) : Option (Int32 × Wd) :=
  (f_X7_readSwitch w x1).bind fun q1 =>
  if q1.1 = 0 then
    some (0, q1.2)
  else
    (f_X7_skip q1.2 62).bind fun q2 =>
    if q2.1 = 0 then
      some (0, q2.2)
    else
      (f_X7_readDigit q2.2).bind fun q3 =>
      if ib x1 27 = true then
      letw (wup q3.2 7 7 (Int32.toNatClampNeg x1) q3.1) fun w4 =>
      if ib x1 27 = true then
      if (w4 7 7 (Int32.toNatClampNeg x1)) = (-9) then
        some (0, w4)
      else
        (f_X7_skip w4 58).bind fun q5 =>
        if q5.1 = 0 then
          some (0, q5.2)
        else
          (f_X7_sign q5.2).bind fun q6 =>
          if q6.1 = 48 then
            j_X7_readRoute_75 q6.2 x1 x1 0
          else
            (f_X7_readDigits q6.2 9).bind fun q7 =>
            j_X7_readRoute_75 q7.2 x1 x1 q7.1
      else none
      else none
set_option maxRecDepth 100000 in
set_option maxHeartbeats 4000000 in
theorem t_X7_readRoute {l : Launch} {E : En} (w : Wd) (x1 : Int32) : ∀ q, f_X7_readRoute   w x1 = some q → Mt l E yX7_readRoute cX7_readRoute 2 (some .boolean) (rmk 5) [.ref (E.1 7 3), .int (x1)] w (eI q.1) q.2 := by
  refine Mt.of [some (.ref (E.1 7 3)), some (.int (x1))] (plainFor_of_name pn_X7) rfl (Nat.le_of_ble_eq_true rfl) rfl ?_
  unfold f_X7_readRoute
  refine gm_aload_n dX7_readRoute_0 rfl rfl ?_
  refine gm_iload_n dX7_readRoute_1 rfl rfl ?_
  refine gm_callVi (As := [.int (x1)]) dX7_readRoute_2 (t_X7_readSwitch w x1) ce_7_3 rfl cy_X7_readSwitch tb_852 rfl rfl (rm_ok (by decide) (by decide)) (Nat.le_of_ble_eq_true rfl) (fun q1 => ?_)
  refine gm_if_eq (tgt := 17) dX7_readRoute_5 (by decide) ?_ ?_
  · refine gm_iconst (v := 0) dX7_readRoute_17 (by decide) ?_
    exact gm_zret dX7_readRoute_18 rfl
  · refine gm_aload_n dX7_readRoute_8 rfl rfl ?_
    refine gm_bipush (v := 62) dX7_readRoute_9 (by decide) ?_
    refine gm_callVi (As := [.int (62)]) dX7_readRoute_11 (t_X7_skip q1.2 62) ce_7_3 rfl cy_X7_skip tb_844 rfl rfl (rm_ok (by decide) (by decide)) (Nat.le_of_ble_eq_true rfl) (fun q2 => ?_)
    refine gm_if_ne (tgt := 19) dX7_readRoute_14 (by decide) ?_ ?_
    · refine gm_aload_n dX7_readRoute_19 rfl rfl ?_
      refine gm_get dX7_readRoute_20 ce_7_3 rfl inX7 3 (by decide) tb_208 rfl rfl ?_
      refine gm_iload_n dX7_readRoute_23 rfl rfl ?_
      refine gm_aload_n dX7_readRoute_24 rfl rfl ?_
      refine gm_callVi (As := []) dX7_readRoute_25 (t_X7_readDigit q2.2) ce_7_3 rfl cy_X7_readDigit tb_856 rfl rfl (rm_ok (by decide) (by decide)) (Nat.le_of_ble_eq_true rfl) (fun q3 => ?_)
      refine gm_iast dX7_readRoute_28 ce_7_7 (fun w4 => ?_)
      refine gm_aload_n dX7_readRoute_29 rfl rfl ?_
      refine gm_get dX7_readRoute_30 ce_7_3 rfl inX7 3 (by decide) tb_208 rfl rfl ?_
      refine gm_iload_n dX7_readRoute_33 rfl rfl ?_
      refine gm_iald dX7_readRoute_34 ce_7_7 ?_
      refine gm_bipush (v := (-9)) dX7_readRoute_35 (by decide) ?_
      refine gm_icmp_eq (tgt := 49) dX7_readRoute_37 (by decide) ?_ ?_
      · refine gm_iconst (v := 0) dX7_readRoute_49 (by decide) ?_
        exact gm_zret dX7_readRoute_50 rfl
      · refine gm_aload_n dX7_readRoute_40 rfl rfl ?_
        refine gm_bipush (v := 58) dX7_readRoute_41 (by decide) ?_
        refine gm_callVi (As := [.int (58)]) dX7_readRoute_43 (t_X7_skip w4 58) ce_7_3 rfl cy_X7_skip tb_844 rfl rfl (rm_ok (by decide) (by decide)) (Nat.le_of_ble_eq_true rfl) (fun q5 => ?_)
        refine gm_if_ne (tgt := 51) dX7_readRoute_46 (by decide) ?_ ?_
        · refine gm_aload_n dX7_readRoute_51 rfl rfl ?_
          refine gm_get dX7_readRoute_52 ce_7_3 rfl inX7 4 (by decide) tb_209 rfl rfl ?_
          refine gm_iload_n dX7_readRoute_55 rfl rfl ?_
          refine gm_aload_n dX7_readRoute_56 rfl rfl ?_
          refine gm_callVi (As := []) dX7_readRoute_57 (t_X7_sign q5.2) ce_7_3 rfl cy_X7_sign tb_840 rfl rfl (rm_ok (by decide) (by decide)) (Nat.le_of_ble_eq_true rfl) (fun q6 => ?_)
          refine gm_bipush (v := 48) dX7_readRoute_60 (by decide) ?_
          refine gm_icmp_ne (tgt := 69) dX7_readRoute_62 (by decide) ?_ ?_
          · refine gm_aload_n dX7_readRoute_69 rfl rfl ?_
            refine gm_bipush (v := 9) dX7_readRoute_70 (by decide) ?_
            refine gm_callVi (As := [.int (9)]) dX7_readRoute_72 (t_X7_readDigits q6.2 9) ce_7_3 rfl cy_X7_readDigits tb_864 rfl rfl (rm_ok (by decide) (by decide)) (Nat.le_of_ble_eq_true rfl) (fun q7 => ?_)
            exact gm_weak (lsub_s (lsub_s lsub_0)) (k_X7_readRoute_75 q7.2 x1 x1 q7.1)
          · refine gm_iconst (v := 0) dX7_readRoute_65 (by decide) ?_
            refine gm_goto (tgt := 75) dX7_readRoute_66 (by decide) ?_
            exact gm_weak (lsub_s (lsub_s lsub_0)) (k_X7_readRoute_75 q6.2 x1 x1 0)
        · refine gm_iconst (v := 0) dX7_readRoute_49 (by decide) ?_
          exact gm_zret dX7_readRoute_50 rfl
    · refine gm_iconst (v := 0) dX7_readRoute_17 (by decide) ?_
      exact gm_zret dX7_readRoute_18 rfl

noncomputable def f_X7_readPort (w : Wd) (x1 : Int32) : Option (Int32 × Wd) :=
  (f_X7_sign w).bind fun q1 =>
  if q1.1 = 48 then
    some (0, q1.2)
  else
    (f_X7_isDigit q1.2).bind fun q2 =>
    if q2.1 = 0 then
      some (0, q2.2)
    else
      (f_X7_readDigits q2.2 9).bind fun q3 =>
      if ib x1 27 = true then
      letw (wup q3.2 7 8 (Int32.toNatClampNeg x1) q3.1) fun w4 =>
      (f_X7_skip w4 62).bind fun q5 =>
      if q5.1 = 0 then
        some (0, q5.2)
      else
        (f_X7_readSwitch q5.2 x1).bind fun q6 =>
        if q6.1 = 0 then
          some (0, q6.2)
        else
          some (1, q6.2)
      else none
set_option maxRecDepth 100000 in
set_option maxHeartbeats 4000000 in
theorem t_X7_readPort {l : Launch} {E : En} (w : Wd) (x1 : Int32) : ∀ q, f_X7_readPort   w x1 = some q → Mt l E yX7_readPort cX7_readPort 2 (some .boolean) (rmk 5) [.ref (E.1 7 3), .int (x1)] w (eI q.1) q.2 := by
  refine Mt.of [some (.ref (E.1 7 3)), some (.int (x1))] (plainFor_of_name pn_X7) rfl (Nat.le_of_ble_eq_true rfl) rfl ?_
  unfold f_X7_readPort
  refine gm_aload_n dX7_readPort_0 rfl rfl ?_
  refine gm_callVi (As := []) dX7_readPort_1 (t_X7_sign w) ce_7_3 rfl cy_X7_sign tb_840 rfl rfl (rm_ok (by decide) (by decide)) (Nat.le_of_ble_eq_true rfl) (fun q1 => ?_)
  refine gm_bipush (v := 48) dX7_readPort_4 (by decide) ?_
  refine gm_icmp_eq (tgt := 16) dX7_readPort_6 (by decide) ?_ ?_
  · refine gm_iconst (v := 0) dX7_readPort_16 (by decide) ?_
    exact gm_zret dX7_readPort_17 rfl
  · refine gm_aload_n dX7_readPort_9 rfl rfl ?_
    refine gm_callVi (As := []) dX7_readPort_10 (t_X7_isDigit q1.2) ce_7_3 rfl cy_X7_isDigit tb_860 rfl rfl (rm_ok (by decide) (by decide)) (Nat.le_of_ble_eq_true rfl) (fun q2 => ?_)
    refine gm_if_ne (tgt := 18) dX7_readPort_13 (by decide) ?_ ?_
    · refine gm_aload_n dX7_readPort_18 rfl rfl ?_
      refine gm_get dX7_readPort_19 ce_7_3 rfl inX7 4 (by decide) tb_209 rfl rfl ?_
      refine gm_iload_n dX7_readPort_22 rfl rfl ?_
      refine gm_aload_n dX7_readPort_23 rfl rfl ?_
      refine gm_bipush (v := 9) dX7_readPort_24 (by decide) ?_
      refine gm_callVi (As := [.int (9)]) dX7_readPort_26 (t_X7_readDigits q2.2 9) ce_7_3 rfl cy_X7_readDigits tb_864 rfl rfl (rm_ok (by decide) (by decide)) (Nat.le_of_ble_eq_true rfl) (fun q3 => ?_)
      refine gm_iast dX7_readPort_29 ce_7_8 (fun w4 => ?_)
      refine gm_aload_n dX7_readPort_30 rfl rfl ?_
      refine gm_bipush (v := 62) dX7_readPort_31 (by decide) ?_
      refine gm_callVi (As := [.int (62)]) dX7_readPort_33 (t_X7_skip w4 62) ce_7_3 rfl cy_X7_skip tb_844 rfl rfl (rm_ok (by decide) (by decide)) (Nat.le_of_ble_eq_true rfl) (fun q5 => ?_)
      refine gm_if_eq (tgt := 51) dX7_readPort_36 (by decide) ?_ ?_
      · refine gm_iconst (v := 0) dX7_readPort_51 (by decide) ?_
        exact gm_zret dX7_readPort_52 rfl
      · refine gm_aload_n dX7_readPort_39 rfl rfl ?_
        refine gm_iload_n dX7_readPort_40 rfl rfl ?_
        refine gm_callVi (As := [.int (x1)]) dX7_readPort_41 (t_X7_readSwitch q5.2 x1) ce_7_3 rfl cy_X7_readSwitch tb_852 rfl rfl (rm_ok (by decide) (by decide)) (Nat.le_of_ble_eq_true rfl) (fun q6 => ?_)
        refine gm_if_eq (tgt := 51) dX7_readPort_44 (by decide) ?_ ?_
        · refine gm_iconst (v := 0) dX7_readPort_51 (by decide) ?_
          exact gm_zret dX7_readPort_52 rfl
        · refine gm_iconst (v := 1) dX7_readPort_47 (by decide) ?_
          refine gm_goto (tgt := 52) dX7_readPort_48 (by decide) ?_
          exact gm_zret dX7_readPort_52 rfl
    · refine gm_iconst (v := 0) dX7_readPort_16 (by decide) ?_
      exact gm_zret dX7_readPort_17 rfl

noncomputable def f_X7_readCommand (w : Wd) (x1 : Int32) : Option (Int32 × Wd) :=
  if x1 < 0 then
    some (0, w)
  else
    if x1 < 27 then
      (f_X7_sign w).bind fun q1 =>
      if ib x1 27 = true then
      letw (wup q1.2 7 5 (Int32.toNatClampNeg x1) (vp_nar .char q1.1)) fun w2 =>
      (f_X7_skip w2 114).bind fun q3 =>
      if q3.1 = 0 then
        (f_X7_skip q3.2 112).bind fun q4 =>
        if q4.1 = 0 then
          (f_X7_skip q4.2 108).bind fun q5 =>
          if q5.1 = 0 then
            some (0, q5.2)
          else
            (f_X7_readSwitch q5.2 x1).bind fun q6 =>
            if q6.1 = 0 then
              some (0, q6.2)
            else
              some (1, q6.2)
        else
          (f_X7_readPort q4.2 x1).bind fun q7 =>
          if zb q7.1 = true then
          some (q7.1, q7.2)
          else none
      else
        (f_X7_readRoute q3.2 x1).bind fun q8 =>
        if zb q8.1 = true then
        some (q8.1, q8.2)
        else none
      else none
    else
      some (0, w)
set_option maxRecDepth 100000 in
set_option maxHeartbeats 4000000 in
theorem t_X7_readCommand {l : Launch} {E : En} (w : Wd) (x1 : Int32) : ∀ q, f_X7_readCommand   w x1 = some q → Mt l E yX7_readCommand cX7_readCommand 2 (some .boolean) (rmk 6) [.ref (E.1 7 3), .int (x1)] w (eI q.1) q.2 := by
  refine Mt.of [some (.ref (E.1 7 3)), some (.int (x1))] (plainFor_of_name pn_X7) rfl (Nat.le_of_ble_eq_true rfl) rfl ?_
  unfold f_X7_readCommand
  refine gm_iload_n dX7_readCommand_0 rfl rfl ?_
  refine gm_if_lt (tgt := 10) dX7_readCommand_1 (by decide) ?_ ?_
  · refine gm_iconst (v := 0) dX7_readCommand_10 (by decide) ?_
    exact gm_zret dX7_readCommand_11 rfl
  · refine gm_iload_n dX7_readCommand_4 rfl rfl ?_
    refine gm_bipush (v := 27) dX7_readCommand_5 (by decide) ?_
    refine gm_icmp_lt (tgt := 12) dX7_readCommand_7 (by decide) ?_ ?_
    · refine gm_aload_n dX7_readCommand_12 rfl rfl ?_
      refine gm_get dX7_readCommand_13 ce_7_3 rfl inX7 1 (by decide) tb_206 rfl rfl ?_
      refine gm_iload_n dX7_readCommand_16 rfl rfl ?_
      refine gm_aload_n dX7_readCommand_17 rfl rfl ?_
      refine gm_callVi (As := []) dX7_readCommand_18 (t_X7_sign w) ce_7_3 rfl cy_X7_sign tb_840 rfl rfl (rm_ok (by decide) (by decide)) (Nat.le_of_ble_eq_true rfl) (fun q1 => ?_)
      refine gm_cast dX7_readCommand_21 ce_7_5 (fun w2 => ?_)
      refine gm_aload_n dX7_readCommand_22 rfl rfl ?_
      refine gm_bipush (v := 114) dX7_readCommand_23 (by decide) ?_
      refine gm_callVi (As := [.int (114)]) dX7_readCommand_25 (t_X7_skip w2 114) ce_7_3 rfl cy_X7_skip tb_844 rfl rfl (rm_ok (by decide) (by decide)) (Nat.le_of_ble_eq_true rfl) (fun q3 => ?_)
      refine gm_if_eq (tgt := 37) dX7_readCommand_28 (by decide) ?_ ?_
      · refine gm_aload_n dX7_readCommand_37 rfl rfl ?_
        refine gm_bipush (v := 112) dX7_readCommand_38 (by decide) ?_
        refine gm_callVi (As := [.int (112)]) dX7_readCommand_40 (t_X7_skip q3.2 112) ce_7_3 rfl cy_X7_skip tb_844 rfl rfl (rm_ok (by decide) (by decide)) (Nat.le_of_ble_eq_true rfl) (fun q4 => ?_)
        refine gm_if_eq (tgt := 52) dX7_readCommand_43 (by decide) ?_ ?_
        · refine gm_aload_n dX7_readCommand_52 rfl rfl ?_
          refine gm_bipush (v := 108) dX7_readCommand_53 (by decide) ?_
          refine gm_callVi (As := [.int (108)]) dX7_readCommand_55 (t_X7_skip q4.2 108) ce_7_3 rfl cy_X7_skip tb_844 rfl rfl (rm_ok (by decide) (by decide)) (Nat.le_of_ble_eq_true rfl) (fun q5 => ?_)
          refine gm_if_eq (tgt := 73) dX7_readCommand_58 (by decide) ?_ ?_
          · refine gm_iconst (v := 0) dX7_readCommand_73 (by decide) ?_
            exact gm_zret dX7_readCommand_74 rfl
          · refine gm_aload_n dX7_readCommand_61 rfl rfl ?_
            refine gm_iload_n dX7_readCommand_62 rfl rfl ?_
            refine gm_callVi (As := [.int (x1)]) dX7_readCommand_63 (t_X7_readSwitch q5.2 x1) ce_7_3 rfl cy_X7_readSwitch tb_852 rfl rfl (rm_ok (by decide) (by decide)) (Nat.le_of_ble_eq_true rfl) (fun q6 => ?_)
            refine gm_if_eq (tgt := 73) dX7_readCommand_66 (by decide) ?_ ?_
            · refine gm_iconst (v := 0) dX7_readCommand_73 (by decide) ?_
              exact gm_zret dX7_readCommand_74 rfl
            · refine gm_iconst (v := 1) dX7_readCommand_69 (by decide) ?_
              refine gm_goto (tgt := 74) dX7_readCommand_70 (by decide) ?_
              exact gm_zret dX7_readCommand_74 rfl
        · refine gm_aload_n dX7_readCommand_46 rfl rfl ?_
          refine gm_iload_n dX7_readCommand_47 rfl rfl ?_
          refine gm_callVi (As := [.int (x1)]) dX7_readCommand_48 (t_X7_readPort q4.2 x1) ce_7_3 rfl cy_X7_readPort tb_868 rfl rfl (rm_ok (by decide) (by decide)) (Nat.le_of_ble_eq_true rfl) (fun q7 => ?_)
          exact gm_zret_g dX7_readCommand_51
      · refine gm_aload_n dX7_readCommand_31 rfl rfl ?_
        refine gm_iload_n dX7_readCommand_32 rfl rfl ?_
        refine gm_callVi (As := [.int (x1)]) dX7_readCommand_33 (t_X7_readRoute q3.2 x1) ce_7_3 rfl cy_X7_readRoute tb_848 rfl rfl (rm_ok (by decide) (by decide)) (Nat.le_of_ble_eq_true rfl) (fun q8 => ?_)
        exact gm_zret_g dX7_readCommand_36
    · refine gm_iconst (v := 0) dX7_readCommand_10 (by decide) ?_
      exact gm_zret dX7_readCommand_11 rfl

noncomputable def b_X7_parse_12 (rc12 : Wd → Int32 → Option (Int32 × Wd)) (w : Wd) (y1 : Int32) : Option (Int32 × Wd) :=
  if 27 ≤ y1 then
    some (0, w)
  else
    (f_X7_readCommand w y1).bind fun q3 =>
    if q3.1 = 0 then
      some (0, q3.2)
    else
      letw (wup q3.2 7 3 8 (y1 + 1)) fun w4 =>
      if (w4 7 3 9) < (w4 7 3 7) then
        (f_X7_skip w4 59).bind fun q5 =>
        if q5.1 = 0 then
          some (0, q5.2)
        else
          rc12 q5.2 (y1 + 1)
      else
        some (1, w4)
set_option maxRecDepth 100000 in
set_option maxHeartbeats 4000000 in
theorem kb_X7_parse_12 {l : Launch} {E : En} (rc12 : Wd → Int32 → Option (Int32 × Wd)) (hrc12 : ∀ (w : Wd) (y1 : Int32), Gm l E cX7_parse 2 RX7 (some .boolean) (rmk (7)) eI (rc12 w y1) w 12 [some (.ref (E.1 7 3)), some (.int (y1))] []) (w : Wd) (y1 : Int32) : Gm l E cX7_parse 2 RX7 (some .boolean) (rmk (7)) eI (b_X7_parse_12   rc12 w y1) w 12 [some (.ref (E.1 7 3)), some (.int (y1))] [] := by
  unfold b_X7_parse_12
  refine gm_iload_n dX7_parse_12 rfl rfl ?_
  refine gm_bipush (v := 27) dX7_parse_13 (by decide) ?_
  refine gm_icmp_ge (tgt := 65) dX7_parse_15 (by decide) ?_ ?_
  · refine gm_iconst (v := 0) dX7_parse_65 (by decide) ?_
    exact gm_zret dX7_parse_66 rfl
  · refine gm_aload_n dX7_parse_18 rfl rfl ?_
    refine gm_iload_n dX7_parse_19 rfl rfl ?_
    refine gm_callVi (As := [.int (y1)]) dX7_parse_20 (t_X7_readCommand w y1) ce_7_3 rfl cy_X7_readCommand tb_836 rfl rfl (rm_ok (by decide) (by decide)) (Nat.le_of_ble_eq_true rfl) (fun q3 => ?_)
    refine gm_if_ne (tgt := 28) dX7_parse_23 (by decide) ?_ ?_
    · refine gm_aload_n dX7_parse_28 rfl rfl ?_
      refine gm_iload_n dX7_parse_29 rfl rfl ?_
      refine gm_iconst (v := 1) dX7_parse_30 (by decide) ?_
      refine gm_iadd dX7_parse_31 ?_
      refine gm_put dX7_parse_32 ce_7_3 rfl inX7 tyX7 tyX7_ok nmX7 8 (by decide) tb_213 rfl rfl (by decide +kernel) (fun _ => rfl) (fun _ => rfl) (fun w4 => ?_)
      refine gm_aload_n dX7_parse_35 rfl rfl ?_
      refine gm_get dX7_parse_36 ce_7_3 rfl inX7 9 (by decide) tb_214 rfl rfl ?_
      refine gm_aload_n dX7_parse_39 rfl rfl ?_
      refine gm_get dX7_parse_40 ce_7_3 rfl inX7 7 (by decide) tb_212 rfl rfl ?_
      refine gm_icmp_lt (tgt := 48) dX7_parse_43 (by decide) ?_ ?_
      · refine gm_aload_n dX7_parse_48 rfl rfl ?_
        refine gm_bipush (v := 59) dX7_parse_49 (by decide) ?_
        refine gm_callVi (As := [.int (59)]) dX7_parse_51 (t_X7_skip w4 59) ce_7_3 rfl cy_X7_skip tb_844 rfl rfl (rm_ok (by decide) (by decide)) (Nat.le_of_ble_eq_true rfl) (fun q5 => ?_)
        refine gm_if_ne (tgt := 59) dX7_parse_54 (by decide) ?_ ?_
        · refine gm_iinc (v := 1) (lv' := [some (.ref (E.1 7 3)), some (.int (y1 + 1))]) dX7_parse_59 rfl (by decide) (by decide) rfl rfl ?_
          refine gm_goto (tgt := 12) dX7_parse_62 (by decide) ?_
          exact gm_weak (lsub_s (lsub_s lsub_0)) (hrc12 q5.2 (y1 + 1))
        · refine gm_iconst (v := 0) dX7_parse_57 (by decide) ?_
          exact gm_zret dX7_parse_58 rfl
      · refine gm_iconst (v := 1) dX7_parse_46 (by decide) ?_
        exact gm_zret dX7_parse_47 rfl
    · refine gm_iconst (v := 0) dX7_parse_26 (by decide) ?_
      exact gm_zret dX7_parse_27 rfl
noncomputable def h_X7_parse_12 : Nat → (Wd → Int32 → Option (Int32 × Wd))
  | 0 => fun _ _ => none
  | fu + 1 => b_X7_parse_12    (h_X7_parse_12    fu)
set_option maxRecDepth 100000 in
set_option maxHeartbeats 4000000 in
theorem k_X7_parse_12 {l : Launch} {E : En} : ∀ (fu : Nat) (w : Wd) (y1 : Int32), Gm l E cX7_parse 2 RX7 (some .boolean) (rmk (7)) eI (h_X7_parse_12    fu w y1) w 12 [some (.ref (E.1 7 3)), some (.int (y1))] []
  | 0, _, _ => gm_none
  | fu + 1, w, y1 => kb_X7_parse_12     (h_X7_parse_12    fu)  (fun w y1 => k_X7_parse_12      fu w y1) w y1
noncomputable def f_X7_parse (w : Wd) : Option (Int32 × Wd) :=
  letw (wup w 7 3 9 0) fun w1 =>
  letw (wup w1 7 3 8 0) fun w2 =>
  h_X7_parse_12 FU w2 0
set_option maxRecDepth 100000 in
set_option maxHeartbeats 4000000 in
theorem t_X7_parse {l : Launch} {E : En} (w : Wd) : ∀ q, f_X7_parse   w  = some q → Mt l E yX7_parse cX7_parse 2 (some .boolean) (rmk 7) [.ref (E.1 7 3)] w (eI q.1) q.2 := by
  refine Mt.of [some (.ref (E.1 7 3)), none] (plainFor_of_name pn_X7) rfl (Nat.le_of_ble_eq_true rfl) rfl ?_
  unfold f_X7_parse
  refine gm_aload_n dX7_parse_0 rfl rfl ?_
  refine gm_iconst (v := 0) dX7_parse_1 (by decide) ?_
  refine gm_put dX7_parse_2 ce_7_3 rfl inX7 tyX7 tyX7_ok nmX7 9 (by decide) tb_214 rfl rfl (by decide +kernel) (fun _ => rfl) (fun _ => rfl) (fun w1 => ?_)
  refine gm_aload_n dX7_parse_5 rfl rfl ?_
  refine gm_iconst (v := 0) dX7_parse_6 (by decide) ?_
  refine gm_put dX7_parse_7 ce_7_3 rfl inX7 tyX7 tyX7_ok nmX7 8 (by decide) tb_213 rfl rfl (by decide +kernel) (fun _ => rfl) (fun _ => rfl) (fun w2 => ?_)
  refine gm_iconst (v := 0) dX7_parse_10 (by decide) ?_
  refine gm_istore_n (lv' := [some (.ref (E.1 7 3)), some (.int (0))]) dX7_parse_11 rfl (by decide) rfl rfl ?_
  exact gm_weak (lsub_s (lsub_s lsub_0)) (k_X7_parse_12 FU w2 0)

noncomputable def f_X7_size (w : Wd) : Option (Int32 × Wd) :=
  some (w 7 3 7, w)
set_option maxRecDepth 100000 in
set_option maxHeartbeats 4000000 in
theorem t_X7_size {l : Launch} {E : En} (w : Wd) : ∀ q, f_X7_size   w  = some q → Mt l E yX7_size cX7_size 1 (some .int) (rmk 1) [.ref (E.1 7 3)] w (eI q.1) q.2 := by
  refine Mt.of [some (.ref (E.1 7 3))] (plainFor_of_name pn_X7) rfl (Nat.le_of_ble_eq_true rfl) rfl ?_
  unfold f_X7_size
  refine gm_aload_n dX7_size_0 rfl rfl ?_
  refine gm_get dX7_size_1 ce_7_3 rfl inX7 7 (by decide) tb_212 rfl rfl ?_
  exact gm_iret dX7_size_4
noncomputable def p_X7_size (w : Wd) : Int32 :=
  w 7 3 7
theorem fp_X7_size (w : Wd) : f_X7_size  w  = some (p_X7_size  w , w) := by
  unfold f_X7_size p_X7_size
  (try simp only [leti, letl])
  repeat' (first | rfl | split)
theorem tk_X7_size {l : Launch} {E : En} (w : Wd) : Mt l E yX7_size cX7_size 1 (some .int) (rmk 1) [.ref (E.1 7 3)] w (some (.int (p_X7_size  w ))) w := t_X7_size   w  _ (fp_X7_size  w )
