noncomputable def f_J6_bitCount_0f7a4 (w : Wd) (x0 : Int32) : Option (Int32 × Wd) :=
  leti (x0 - (((x0.toUInt32 >>> ((1 : Int32).toUInt32 &&& Int32.toUInt32 31)).toInt32) &&& 1431655765)) fun u1 =>
  leti ((u1 &&& 858993459) + (((u1.toUInt32 >>> ((2 : Int32).toUInt32 &&& Int32.toUInt32 31)).toInt32) &&& 858993459)) fun u2 =>
  leti ((u2 + ((u2.toUInt32 >>> ((4 : Int32).toUInt32 &&& Int32.toUInt32 31)).toInt32)) &&& 252645135) fun u3 =>
  leti (u3 + ((u3.toUInt32 >>> ((8 : Int32).toUInt32 &&& Int32.toUInt32 31)).toInt32)) fun u4 =>
  leti (u4 + ((u4.toUInt32 >>> ((16 : Int32).toUInt32 &&& Int32.toUInt32 31)).toInt32)) fun u5 =>
  some (u5 &&& 63, w)
set_option maxRecDepth 100000 in
set_option maxHeartbeats 4000000 in
theorem t_J6_bitCount_0f7a4 {l : Launch} {E : En} (w : Wd) (x0 : Int32) : ∀ q, f_J6_bitCount_0f7a4   w x0 = some q → Mt l E yJ6_bitCount_0f7a4 cJ6_bitCount_0f7a4 1 (some .int) (rmk 1) [.int (x0)] w (eI q.1) q.2 := by
  refine Mt.of [some (.int (x0))] (by decide +kernel) rfl (Nat.le_of_ble_eq_true rfl) rfl ?_
  unfold f_J6_bitCount_0f7a4
  refine gm_iload_n dJ6_bitCount_0f7a4_0 rfl rfl ?_
  refine gm_iload_n dJ6_bitCount_0f7a4_1 rfl rfl ?_
  refine gm_iconst (v := 1) dJ6_bitCount_0f7a4_2 (by decide) ?_
  refine gm_iushr dJ6_bitCount_0f7a4_3 rfl ?_
  refine gm_ldcw (v := 1431655765) dJ6_bitCount_0f7a4_4 tb_516 ?_
  refine gm_iand dJ6_bitCount_0f7a4_7 ?_
  refine gm_isub dJ6_bitCount_0f7a4_8 ?_
  refine gm_leti_st (fun u1 => ?_)
  refine gm_istore_n (lv' := [some (.int (u1))]) dJ6_bitCount_0f7a4_9 rfl (by decide) rfl rfl ?_
  refine gm_iload_n dJ6_bitCount_0f7a4_10 rfl rfl ?_
  refine gm_ldcw (v := 858993459) dJ6_bitCount_0f7a4_11 tb_517 ?_
  refine gm_iand dJ6_bitCount_0f7a4_14 ?_
  refine gm_iload_n dJ6_bitCount_0f7a4_15 rfl rfl ?_
  refine gm_iconst (v := 2) dJ6_bitCount_0f7a4_16 (by decide) ?_
  refine gm_iushr dJ6_bitCount_0f7a4_17 rfl ?_
  refine gm_ldcw (v := 858993459) dJ6_bitCount_0f7a4_18 tb_517 ?_
  refine gm_iand dJ6_bitCount_0f7a4_21 ?_
  refine gm_iadd dJ6_bitCount_0f7a4_22 ?_
  refine gm_leti_st (fun u2 => ?_)
  refine gm_istore_n (lv' := [some (.int (u2))]) dJ6_bitCount_0f7a4_23 rfl (by decide) rfl rfl ?_
  refine gm_iload_n dJ6_bitCount_0f7a4_24 rfl rfl ?_
  refine gm_iload_n dJ6_bitCount_0f7a4_25 rfl rfl ?_
  refine gm_iconst (v := 4) dJ6_bitCount_0f7a4_26 (by decide) ?_
  refine gm_iushr dJ6_bitCount_0f7a4_27 rfl ?_
  refine gm_iadd dJ6_bitCount_0f7a4_28 ?_
  refine gm_ldcw (v := 252645135) dJ6_bitCount_0f7a4_29 tb_518 ?_
  refine gm_iand dJ6_bitCount_0f7a4_32 ?_
  refine gm_leti_st (fun u3 => ?_)
  refine gm_istore_n (lv' := [some (.int (u3))]) dJ6_bitCount_0f7a4_33 rfl (by decide) rfl rfl ?_
  refine gm_iload_n dJ6_bitCount_0f7a4_34 rfl rfl ?_
  refine gm_iload_n dJ6_bitCount_0f7a4_35 rfl rfl ?_
  refine gm_bipush (v := 8) dJ6_bitCount_0f7a4_36 (by decide) ?_
  refine gm_iushr dJ6_bitCount_0f7a4_38 rfl ?_
  refine gm_iadd dJ6_bitCount_0f7a4_39 ?_
  refine gm_leti_st (fun u4 => ?_)
  refine gm_istore_n (lv' := [some (.int (u4))]) dJ6_bitCount_0f7a4_40 rfl (by decide) rfl rfl ?_
  refine gm_iload_n dJ6_bitCount_0f7a4_41 rfl rfl ?_
  refine gm_iload_n dJ6_bitCount_0f7a4_42 rfl rfl ?_
  refine gm_bipush (v := 16) dJ6_bitCount_0f7a4_43 (by decide) ?_
  refine gm_iushr dJ6_bitCount_0f7a4_45 rfl ?_
  refine gm_iadd dJ6_bitCount_0f7a4_46 ?_
  refine gm_leti_st (fun u5 => ?_)
  refine gm_istore_n (lv' := [some (.int (u5))]) dJ6_bitCount_0f7a4_47 rfl (by decide) rfl rfl ?_
  refine gm_iload_n dJ6_bitCount_0f7a4_48 rfl rfl ?_
  refine gm_bipush (v := 63) dJ6_bitCount_0f7a4_49 (by decide) ?_
  refine gm_iand dJ6_bitCount_0f7a4_51 ?_
  exact gm_iret dJ6_bitCount_0f7a4_52
noncomputable def p_J6_bitCount_0f7a4 (w : Wd) (x0 : Int32) : Int32 :=
  leti (x0 - (((x0.toUInt32 >>> ((1 : Int32).toUInt32 &&& Int32.toUInt32 31)).toInt32) &&& 1431655765)) fun u1 =>
  leti ((u1 &&& 858993459) + (((u1.toUInt32 >>> ((2 : Int32).toUInt32 &&& Int32.toUInt32 31)).toInt32) &&& 858993459)) fun u2 =>
  leti ((u2 + ((u2.toUInt32 >>> ((4 : Int32).toUInt32 &&& Int32.toUInt32 31)).toInt32)) &&& 252645135) fun u3 =>
  leti (u3 + ((u3.toUInt32 >>> ((8 : Int32).toUInt32 &&& Int32.toUInt32 31)).toInt32)) fun u4 =>
  leti (u4 + ((u4.toUInt32 >>> ((16 : Int32).toUInt32 &&& Int32.toUInt32 31)).toInt32)) fun u5 =>
  u5 &&& 63
theorem fp_J6_bitCount_0f7a4 (w : Wd) (x0 : Int32) : f_J6_bitCount_0f7a4  w x0 = some (p_J6_bitCount_0f7a4  w x0, w) := by
  unfold f_J6_bitCount_0f7a4 p_J6_bitCount_0f7a4
  (try simp only [leti, letl])
  repeat' (first | rfl | split)
theorem tk_J6_bitCount_0f7a4 {l : Launch} {E : En} (w : Wd) (x0 : Int32) : Mt l E yJ6_bitCount_0f7a4 cJ6_bitCount_0f7a4 1 (some .int) (rmk 1) [.int (x0)] w (some (.int (p_J6_bitCount_0f7a4  w x0))) w := t_J6_bitCount_0f7a4   w x0 _ (fp_J6_bitCount_0f7a4  w x0)

noncomputable def f_J9_floorMod_7cf53 (w : Wd) (x0 : Int32) (x1 : Int32) : Option (Int32 × Wd) :=
  if x1 = 0 then none else
  leti (x0 - x0 / x1 * x1) fun u1 =>
  if 0 ≤ (x0 ^^^ x1) then
    some (u1, w)
  else
    if u1 = 0 then
      some (u1, w)
    else
      some (u1 + x1, w)
set_option maxRecDepth 100000 in
set_option maxHeartbeats 4000000 in
theorem t_J9_floorMod_7cf53 {l : Launch} {E : En} (w : Wd) (x0 : Int32) (x1 : Int32) : ∀ q, f_J9_floorMod_7cf53   w x0 x1 = some q → Mt l E yJ9_floorMod_7cf53 cJ9_floorMod_7cf53 3 (some .int) (rmk 1) [.int (x0), .int (x1)] w (eI q.1) q.2 := by
  refine Mt.of [some (.int (x0)), some (.int (x1)), none] (by decide +kernel) rfl (Nat.le_of_ble_eq_true rfl) rfl ?_
  unfold f_J9_floorMod_7cf53
  refine gm_iload_n dJ9_floorMod_7cf53_0 rfl rfl ?_
  refine gm_iload_n dJ9_floorMod_7cf53_1 rfl rfl ?_
  refine gm_irem_g dJ9_floorMod_7cf53_2 ?_
  refine gm_leti_st (fun u1 => ?_)
  refine gm_istore_n (lv' := [some (.int (x0)), some (.int (x1)), some (.int (u1))]) dJ9_floorMod_7cf53_3 rfl (by decide) rfl rfl ?_
  refine gm_iload_n dJ9_floorMod_7cf53_4 rfl rfl ?_
  refine gm_iload_n dJ9_floorMod_7cf53_5 rfl rfl ?_
  refine gm_ixor dJ9_floorMod_7cf53_6 ?_
  refine gm_if_ge (tgt := 18) dJ9_floorMod_7cf53_7 (by decide) ?_ ?_
  · refine gm_iload_n dJ9_floorMod_7cf53_18 rfl rfl ?_
    exact gm_iret dJ9_floorMod_7cf53_19
  · refine gm_iload_n dJ9_floorMod_7cf53_10 rfl rfl ?_
    refine gm_if_eq (tgt := 18) dJ9_floorMod_7cf53_11 (by decide) ?_ ?_
    · refine gm_iload_n dJ9_floorMod_7cf53_18 rfl rfl ?_
      exact gm_iret dJ9_floorMod_7cf53_19
    · refine gm_iload_n dJ9_floorMod_7cf53_14 rfl rfl ?_
      refine gm_iload_n dJ9_floorMod_7cf53_15 rfl rfl ?_
      refine gm_iadd dJ9_floorMod_7cf53_16 ?_
      exact gm_iret dJ9_floorMod_7cf53_17

noncomputable def f_J9_max_7cf53 (w : Wd) (x0 : Int32) (x1 : Int32) : Option (Int32 × Wd) :=
  if x0 < x1 then
    some (x1, w)
  else
    some (x0, w)
set_option maxRecDepth 100000 in
set_option maxHeartbeats 4000000 in
theorem t_J9_max_7cf53 {l : Launch} {E : En} (w : Wd) (x0 : Int32) (x1 : Int32) : ∀ q, f_J9_max_7cf53   w x0 x1 = some q → Mt l E yJ9_max_7cf53 cJ9_max_7cf53 2 (some .int) (rmk 1) [.int (x0), .int (x1)] w (eI q.1) q.2 := by
  refine Mt.of [some (.int (x0)), some (.int (x1))] (by decide +kernel) rfl (Nat.le_of_ble_eq_true rfl) rfl ?_
  unfold f_J9_max_7cf53
  refine gm_iload_n dJ9_max_7cf53_0 rfl rfl ?_
  refine gm_iload_n dJ9_max_7cf53_1 rfl rfl ?_
  refine gm_icmp_lt (tgt := 9) dJ9_max_7cf53_2 (by decide) ?_ ?_
  · refine gm_iload_n dJ9_max_7cf53_9 rfl rfl ?_
    exact gm_iret dJ9_max_7cf53_10
  · refine gm_iload_n dJ9_max_7cf53_5 rfl rfl ?_
    refine gm_goto (tgt := 10) dJ9_max_7cf53_6 (by decide) ?_
    exact gm_iret dJ9_max_7cf53_10
noncomputable def p_J9_max_7cf53 (w : Wd) (x0 : Int32) (x1 : Int32) : Int32 :=
  if x0 < x1 then
    x1
  else
    x0
theorem fp_J9_max_7cf53 (w : Wd) (x0 : Int32) (x1 : Int32) : f_J9_max_7cf53  w x0 x1 = some (p_J9_max_7cf53  w x0 x1, w) := by
  unfold f_J9_max_7cf53 p_J9_max_7cf53
  (try simp only [leti, letl])
  repeat' (first | rfl | split)
theorem tk_J9_max_7cf53 {l : Launch} {E : En} (w : Wd) (x0 : Int32) (x1 : Int32) : Mt l E yJ9_max_7cf53 cJ9_max_7cf53 2 (some .int) (rmk 1) [.int (x0), .int (x1)] w (some (.int (p_J9_max_7cf53  w x0 x1))) w := t_J9_max_7cf53   w x0 x1 _ (fp_J9_max_7cf53  w x0 x1)

noncomputable def f_J9_min_7cf53 (w : Wd) (x0 : Int32) (x1 : Int32) : Option (Int32 × Wd) :=
  if x1 < x0 then
    some (x1, w)
  else
    some (x0, w)
set_option maxRecDepth 100000 in
set_option maxHeartbeats 4000000 in
theorem t_J9_min_7cf53 {l : Launch} {E : En} (w : Wd) (x0 : Int32) (x1 : Int32) : ∀ q, f_J9_min_7cf53   w x0 x1 = some q → Mt l E yJ9_min_7cf53 cJ9_min_7cf53 2 (some .int) (rmk 1) [.int (x0), .int (x1)] w (eI q.1) q.2 := by
  refine Mt.of [some (.int (x0)), some (.int (x1))] (by decide +kernel) rfl (Nat.le_of_ble_eq_true rfl) rfl ?_
  unfold f_J9_min_7cf53
  refine gm_iload_n dJ9_min_7cf53_0 rfl rfl ?_
  refine gm_iload_n dJ9_min_7cf53_1 rfl rfl ?_
  refine gm_icmp_gt (tgt := 9) dJ9_min_7cf53_2 (by decide) ?_ ?_
  · refine gm_iload_n dJ9_min_7cf53_9 rfl rfl ?_
    exact gm_iret dJ9_min_7cf53_10
  · refine gm_iload_n dJ9_min_7cf53_5 rfl rfl ?_
    refine gm_goto (tgt := 10) dJ9_min_7cf53_6 (by decide) ?_
    exact gm_iret dJ9_min_7cf53_10
noncomputable def p_J9_min_7cf53 (w : Wd) (x0 : Int32) (x1 : Int32) : Int32 :=
  if x1 < x0 then
    x1
  else
    x0
theorem fp_J9_min_7cf53 (w : Wd) (x0 : Int32) (x1 : Int32) : f_J9_min_7cf53  w x0 x1 = some (p_J9_min_7cf53  w x0 x1, w) := by
  unfold f_J9_min_7cf53 p_J9_min_7cf53
  (try simp only [leti, letl])
  repeat' (first | rfl | split)
theorem tk_J9_min_7cf53 {l : Launch} {E : En} (w : Wd) (x0 : Int32) (x1 : Int32) : Mt l E yJ9_min_7cf53 cJ9_min_7cf53 2 (some .int) (rmk 1) [.int (x0), .int (x1)] w (some (.int (p_J9_min_7cf53  w x0 x1))) w := t_J9_min_7cf53   w x0 x1 _ (fp_J9_min_7cf53  w x0 x1)

noncomputable def f_X0_has (n : Nat) (w : Wd) (x1 : Int32) : Option (Int32 × Wd) :=
  if x1 < 0 then
    some (0, w)
  else
    if 10 ≤ x1 then
      some (0, w)
    else
      if ib x1 10 = true then
      if (w n 14 (Int32.toNatClampNeg x1)) = 0 then
        some (0, w)
      else
        some (1, w)
      else none
set_option maxRecDepth 100000 in
set_option maxHeartbeats 4000000 in
theorem t_X0_has {l : Launch} {E : En} (n : Nat) (hn : n < 7) (w : Wd) (x1 : Int32) : ∀ q, f_X0_has  n w x1 = some q → Mt l E yX0_has cX0_has 2 (some .boolean) (rmk 1) [.ref (E.1 n 13), .int (x1)] w (eI q.1) q.2 := by
  refine Mt.of [some (.ref (E.1 n 13)), some (.int (x1))] (plainFor_of_name pn_X0) rfl (Nat.le_of_ble_eq_true rfl) rfl ?_
  unfold f_X0_has
  refine gm_iload_n dX0_has_0 rfl rfl ?_
  refine gm_if_lt (tgt := 23) dX0_has_1 (by decide) ?_ ?_
  · refine gm_iconst (v := 0) dX0_has_23 (by decide) ?_
    exact gm_zret dX0_has_24 rfl
  · refine gm_iload_n dX0_has_4 rfl rfl ?_
    refine gm_bipush (v := 10) dX0_has_5 (by decide) ?_
    refine gm_icmp_ge (tgt := 23) dX0_has_7 (by decide) ?_ ?_
    · refine gm_iconst (v := 0) dX0_has_23 (by decide) ?_
      exact gm_zret dX0_has_24 rfl
    · refine gm_aload_n dX0_has_10 rfl rfl ?_
      refine gm_get dX0_has_11 (ce_n_13 (n := n) hn) rfl inX0 0 (by decide) tb_136 rfl rfl ?_
      refine gm_iload_n dX0_has_14 rfl rfl ?_
      refine gm_iald dX0_has_15 (ce_n_14 (n := n) hn) ?_
      refine gm_if_eq (tgt := 23) dX0_has_16 (by decide) ?_ ?_
      · refine gm_iconst (v := 0) dX0_has_23 (by decide) ?_
        exact gm_zret dX0_has_24 rfl
      · refine gm_iconst (v := 1) dX0_has_19 (by decide) ?_
        refine gm_goto (tgt := 24) dX0_has_20 (by decide) ?_
        exact gm_zret dX0_has_24 rfl

noncomputable def f_X9_inRange (w : Wd) (x0 : Int32) (x1 : Int32) (x2 : Int32) : Option (Int32 × Wd) :=
  if x0 < x1 then
    some (0, w)
  else
    if x2 < x0 then
      some (0, w)
    else
      some (1, w)
set_option maxRecDepth 100000 in
set_option maxHeartbeats 4000000 in
theorem t_X9_inRange {l : Launch} {E : En} (w : Wd) (x0 : Int32) (x1 : Int32) (x2 : Int32) : ∀ q, f_X9_inRange   w x0 x1 x2 = some q → Mt l E yX9_inRange cX9_inRange 3 (some .boolean) (rmk 1) [.int (x0), .int (x1), .int (x2)] w (eI q.1) q.2 := by
  refine Mt.of [some (.int (x0)), some (.int (x1)), some (.int (x2))] (plainFor_of_name pn_X9) rfl (Nat.le_of_ble_eq_true rfl) rfl ?_
  unfold f_X9_inRange
  refine gm_iload_n dX9_inRange_0 rfl rfl ?_
  refine gm_iload_n dX9_inRange_1 rfl rfl ?_
  refine gm_icmp_lt (tgt := 14) dX9_inRange_2 (by decide) ?_ ?_
  · refine gm_iconst (v := 0) dX9_inRange_14 (by decide) ?_
    exact gm_zret dX9_inRange_15 rfl
  · refine gm_iload_n dX9_inRange_5 rfl rfl ?_
    refine gm_iload_n dX9_inRange_6 rfl rfl ?_
    refine gm_icmp_gt (tgt := 14) dX9_inRange_7 (by decide) ?_ ?_
    · refine gm_iconst (v := 0) dX9_inRange_14 (by decide) ?_
      exact gm_zret dX9_inRange_15 rfl
    · refine gm_iconst (v := 1) dX9_inRange_10 (by decide) ?_
      refine gm_goto (tgt := 15) dX9_inRange_11 (by decide) ?_
      exact gm_zret dX9_inRange_15 rfl
noncomputable def p_X9_inRange (w : Wd) (x0 : Int32) (x1 : Int32) (x2 : Int32) : Int32 :=
  if x0 < x1 then
    0
  else
    if x2 < x0 then
      0
    else
      1
theorem fp_X9_inRange (w : Wd) (x0 : Int32) (x1 : Int32) (x2 : Int32) : f_X9_inRange  w x0 x1 x2 = some (p_X9_inRange  w x0 x1 x2, w) := by
  unfold f_X9_inRange p_X9_inRange
  (try simp only [leti, letl])
  repeat' (first | rfl | split)
theorem tk_X9_inRange {l : Launch} {E : En} (w : Wd) (x0 : Int32) (x1 : Int32) (x2 : Int32) : Mt l E yX9_inRange cX9_inRange 3 (some .boolean) (rmk 1) [.int (x0), .int (x1), .int (x2)] w (some (.int (p_X9_inRange  w x0 x1 x2))) w := t_X9_inRange   w x0 x1 x2 _ (fp_X9_inRange  w x0 x1 x2)

noncomputable def f_X0_addStep (n : Nat) (w : Wd) (x1 : Int32) (x2 : Int32) : Option (Unit × Wd) :=
  (f_X0_has n w x1).bind fun q1 =>
  if q1.1 = 0 then
    some ((), q1.2)
  else
    if ib x1 10 = true then
    if (p_X9_inRange q1.2 (q1.2 n 16 (Int32.toNatClampNeg x1)) 0 5) = 0 then
      some ((), q1.2)
    else
      if ib x1 10 = true then
      if ib ((x1 * 6) + (q1.2 n 16 (Int32.toNatClampNeg x1))) 60 = true then
      letw (wup q1.2 n 17 (Int32.toNatClampNeg ((x1 * 6) + (q1.2 n 16 (Int32.toNatClampNeg x1)))) x2) fun w2 =>
      if ib x1 10 = true then
      if ib x1 10 = true then
      letw (wup w2 n 16 (Int32.toNatClampNeg x1) ((w2 n 16 (Int32.toNatClampNeg x1)) + 1)) fun w3 =>
      some ((), w3)
      else none
      else none
      else none
      else none
    else none
set_option maxRecDepth 100000 in
set_option maxHeartbeats 4000000 in
theorem t_X0_addStep {l : Launch} {E : En} (n : Nat) (hn : n < 7) (w : Wd) (x1 : Int32) (x2 : Int32) : ∀ q, f_X0_addStep  n w x1 x2 = some q → Mt l E yX0_addStep cX0_addStep 3 none (rmk 2) [.ref (E.1 n 13), .int (x1), .int (x2)] w (eV q.1) q.2 := by
  refine Mt.of [some (.ref (E.1 n 13)), some (.int (x1)), some (.int (x2))] (plainFor_of_name pn_X0) rfl (Nat.le_of_ble_eq_true rfl) rfl ?_
  unfold f_X0_addStep
  refine gm_aload_n dX0_addStep_0 rfl rfl ?_
  refine gm_iload_n dX0_addStep_1 rfl rfl ?_
  refine gm_callVi (As := [.int (x1)]) dX0_addStep_2 (t_X0_has n hn w x1) (ce_n_13 (n := n) hn) rfl cy_X0_has tb_622 rfl rfl (rm_ok (by decide) (by decide)) (Nat.le_of_ble_eq_true rfl) (fun q1 => ?_)
  refine gm_if_eq (tgt := 49) dX0_addStep_5 (by decide) ?_ ?_
  · exact gm_vret dX0_addStep_49
  · refine gm_aload_n dX0_addStep_8 rfl rfl ?_
    refine gm_get dX0_addStep_9 (ce_n_13 (n := n) hn) rfl inX0 2 (by decide) tb_138 rfl rfl ?_
    refine gm_iload_n dX0_addStep_12 rfl rfl ?_
    refine gm_iald dX0_addStep_13 (ce_n_16 (n := n) hn) ?_
    refine gm_iconst (v := 0) dX0_addStep_14 (by decide) ?_
    refine gm_iconst (v := 5) dX0_addStep_15 (by decide) ?_
    refine gm_callNk (As := [.int (q1.2 n 16 (Int32.toNatClampNeg x1)), .int (0), .int (5)]) dX0_addStep_16 (tk_X9_inRange q1.2 (q1.2 n 16 (Int32.toNatClampNeg x1)) 0 5) cy_X9_inRange tb_609 rfl rfl (rm_ok (by decide) (by decide)) (Nat.le_of_ble_eq_true rfl) ?_
    refine gm_if_eq (tgt := 49) dX0_addStep_19 (by decide) ?_ ?_
    · exact gm_vret dX0_addStep_49
    · refine gm_aload_n dX0_addStep_22 rfl rfl ?_
      refine gm_get dX0_addStep_23 (ce_n_13 (n := n) hn) rfl inX0 3 (by decide) tb_139 rfl rfl ?_
      refine gm_iload_n dX0_addStep_26 rfl rfl ?_
      refine gm_bipush (v := 6) dX0_addStep_27 (by decide) ?_
      refine gm_imul dX0_addStep_29 ?_
      refine gm_aload_n dX0_addStep_30 rfl rfl ?_
      refine gm_get dX0_addStep_31 (ce_n_13 (n := n) hn) rfl inX0 2 (by decide) tb_138 rfl rfl ?_
      refine gm_iload_n dX0_addStep_34 rfl rfl ?_
      refine gm_iald dX0_addStep_35 (ce_n_16 (n := n) hn) ?_
      refine gm_iadd dX0_addStep_36 ?_
      refine gm_iload_n dX0_addStep_37 rfl rfl ?_
      refine gm_iast dX0_addStep_38 (ce_n_17 (n := n) hn) (fun w2 => ?_)
      refine gm_aload_n dX0_addStep_39 rfl rfl ?_
      refine gm_get dX0_addStep_40 (ce_n_13 (n := n) hn) rfl inX0 2 (by decide) tb_138 rfl rfl ?_
      refine gm_iload_n dX0_addStep_43 rfl rfl ?_
      refine gm_dup2 dX0_addStep_44 rfl rfl ?_
      refine gm_iald dX0_addStep_45 (ce_n_16 (n := n) hn) ?_
      refine gm_iconst (v := 1) dX0_addStep_46 (by decide) ?_
      refine gm_iadd dX0_addStep_47 ?_
      refine gm_iast dX0_addStep_48 (ce_n_16 (n := n) hn) (fun w3 => ?_)
      exact gm_vret dX0_addStep_49

noncomputable def f_X0_copyFrom (n : Nat) (n2 : Nat) (w : Wd) : Option (Unit × Wd) :=
  letw (wcp w n2 14 n 14 0 0 10) fun w1 =>
  letw (wcp w1 n2 15 n 15 0 0 10) fun w2 =>
  letw (wcp w2 n2 16 n 16 0 0 10) fun w3 =>
  letw (wcp w3 n2 17 n 17 0 0 60) fun w4 =>
  letw (wup w4 n 13 4 (w4 n2 13 4)) fun w5 =>
  some ((), w5)
set_option maxRecDepth 100000 in
set_option maxHeartbeats 4000000 in
theorem t_X0_copyFrom {l : Launch} {E : En} (n : Nat) (n2 : Nat) (hn : n < 7) (hn2 : n2 < 7) (w : Wd) : ∀ q, f_X0_copyFrom  n n2 w  = some q → Mt l E yX0_copyFrom cX0_copyFrom 2 none (rmk 2) [.ref (E.1 n 13), .ref (E.1 n2 13)] w (eV q.1) q.2 := by
  refine Mt.of [some (.ref (E.1 n 13)), some (.ref (E.1 n2 13))] (plainFor_of_name pn_X0) rfl (Nat.le_of_ble_eq_true rfl) rfl ?_
  unfold f_X0_copyFrom
  refine gm_aload_n dX0_copyFrom_0 rfl rfl ?_
  refine gm_get dX0_copyFrom_1 (ce_n_13 (n := n2) hn2) rfl inX0 0 (by decide) tb_136 rfl rfl ?_
  refine gm_iconst (v := 0) dX0_copyFrom_4 (by decide) ?_
  refine gm_aload_n dX0_copyFrom_5 rfl rfl ?_
  refine gm_get dX0_copyFrom_6 (ce_n_13 (n := n) hn) rfl inX0 0 (by decide) tb_136 rfl rfl ?_
  refine gm_iconst (v := 0) dX0_copyFrom_9 (by decide) ?_
  refine gm_bipush (v := 10) dX0_copyFrom_10 (by decide) ?_
  refine gm_copyi (sp1 := 0) (dp1 := 0) (n2 := 10) dX0_copyFrom_12 (ce_n_14 (n := n2) hn2) (ce_n_14 (n := n) hn) tb_357 tb_342 tb_341 tb_69 (by decide) (by decide) (by decide) (by decide) (by decide) (by decide) (by decide) (by decide) (by decide) (by decide) (fun w1 => ?_)
  refine gm_aload_n dX0_copyFrom_15 rfl rfl ?_
  refine gm_get dX0_copyFrom_16 (ce_n_13 (n := n2) hn2) rfl inX0 1 (by decide) tb_137 rfl rfl ?_
  refine gm_iconst (v := 0) dX0_copyFrom_19 (by decide) ?_
  refine gm_aload_n dX0_copyFrom_20 rfl rfl ?_
  refine gm_get dX0_copyFrom_21 (ce_n_13 (n := n) hn) rfl inX0 1 (by decide) tb_137 rfl rfl ?_
  refine gm_iconst (v := 0) dX0_copyFrom_24 (by decide) ?_
  refine gm_bipush (v := 10) dX0_copyFrom_25 (by decide) ?_
  refine gm_copyi (sp1 := 0) (dp1 := 0) (n2 := 10) dX0_copyFrom_27 (ce_n_15 (n := n2) hn2) (ce_n_15 (n := n) hn) tb_357 tb_342 tb_341 tb_69 (by decide) (by decide) (by decide) (by decide) (by decide) (by decide) (by decide) (by decide) (by decide) (by decide) (fun w2 => ?_)
  refine gm_aload_n dX0_copyFrom_30 rfl rfl ?_
  refine gm_get dX0_copyFrom_31 (ce_n_13 (n := n2) hn2) rfl inX0 2 (by decide) tb_138 rfl rfl ?_
  refine gm_iconst (v := 0) dX0_copyFrom_34 (by decide) ?_
  refine gm_aload_n dX0_copyFrom_35 rfl rfl ?_
  refine gm_get dX0_copyFrom_36 (ce_n_13 (n := n) hn) rfl inX0 2 (by decide) tb_138 rfl rfl ?_
  refine gm_iconst (v := 0) dX0_copyFrom_39 (by decide) ?_
  refine gm_bipush (v := 10) dX0_copyFrom_40 (by decide) ?_
  refine gm_copyi (sp1 := 0) (dp1 := 0) (n2 := 10) dX0_copyFrom_42 (ce_n_16 (n := n2) hn2) (ce_n_16 (n := n) hn) tb_357 tb_342 tb_341 tb_69 (by decide) (by decide) (by decide) (by decide) (by decide) (by decide) (by decide) (by decide) (by decide) (by decide) (fun w3 => ?_)
  refine gm_aload_n dX0_copyFrom_45 rfl rfl ?_
  refine gm_get dX0_copyFrom_46 (ce_n_13 (n := n2) hn2) rfl inX0 3 (by decide) tb_139 rfl rfl ?_
  refine gm_iconst (v := 0) dX0_copyFrom_49 (by decide) ?_
  refine gm_aload_n dX0_copyFrom_50 rfl rfl ?_
  refine gm_get dX0_copyFrom_51 (ce_n_13 (n := n) hn) rfl inX0 3 (by decide) tb_139 rfl rfl ?_
  refine gm_iconst (v := 0) dX0_copyFrom_54 (by decide) ?_
  refine gm_bipush (v := 60) dX0_copyFrom_55 (by decide) ?_
  refine gm_copyi (sp1 := 0) (dp1 := 0) (n2 := 60) dX0_copyFrom_57 (ce_n_17 (n := n2) hn2) (ce_n_17 (n := n) hn) tb_357 tb_342 tb_341 tb_69 (by decide) (by decide) (by decide) (by decide) (by decide) (by decide) (by decide) (by decide) (by decide) (by decide) (fun w4 => ?_)
  refine gm_aload_n dX0_copyFrom_60 rfl rfl ?_
  refine gm_aload_n dX0_copyFrom_61 rfl rfl ?_
  refine gm_get dX0_copyFrom_62 (ce_n_13 (n := n2) hn2) rfl inX0 4 (by decide) tb_140 rfl rfl ?_
  refine gm_put dX0_copyFrom_65 (ce_n_13 (n := n) hn) rfl inX0 tyX0 tyX0_ok nmX0 4 (by decide) tb_140 rfl rfl (by decide +kernel) (fun _ => rfl) (fun _ => rfl) (fun w5 => ?_)
  exact gm_vret dX0_copyFrom_68

noncomputable def b_X0_freePlace_2 (n : Nat) (rc2 : Wd → Int32 → Option (Int32 × Wd)) (w : Wd) (y1 : Int32) : Option (Int32 × Wd) :=
  if 10 ≤ y1 then
    some ((-9), w)
  else
    if ib y1 10 = true then
    if (w n 14 (Int32.toNatClampNeg y1)) = 0 then
      some (y1, w)
    else
      rc2 w (y1 + 1)
    else none
set_option maxRecDepth 100000 in
set_option maxHeartbeats 4000000 in
theorem kb_X0_freePlace_2 {l : Launch} {E : En} (n : Nat) (hn : n < 7) (rc2 : Wd → Int32 → Option (Int32 × Wd)) (hrc2 : ∀ (w : Wd) (y1 : Int32), Gm l E cX0_freePlace 2 RX0 (some .int) (rmk (1)) eI (rc2 w y1) w 2 [some (.ref (E.1 n 13)), some (.int (y1))] []) (w : Wd) (y1 : Int32) : Gm l E cX0_freePlace 2 RX0 (some .int) (rmk (1)) eI (b_X0_freePlace_2 n  rc2 w y1) w 2 [some (.ref (E.1 n 13)), some (.int (y1))] [] := by
  unfold b_X0_freePlace_2
  refine gm_iload_n dX0_freePlace_2 rfl rfl ?_
  refine gm_bipush (v := 10) dX0_freePlace_3 (by decide) ?_
  refine gm_icmp_ge (tgt := 25) dX0_freePlace_5 (by decide) ?_ ?_
  · refine gm_bipush (v := (-9)) dX0_freePlace_25 (by decide) ?_
    exact gm_iret dX0_freePlace_27
  · refine gm_aload_n dX0_freePlace_8 rfl rfl ?_
    refine gm_get dX0_freePlace_9 (ce_n_13 (n := n) hn) rfl inX0 0 (by decide) tb_136 rfl rfl ?_
    refine gm_iload_n dX0_freePlace_12 rfl rfl ?_
    refine gm_iald dX0_freePlace_13 (ce_n_14 (n := n) hn) ?_
    refine gm_if_ne (tgt := 19) dX0_freePlace_14 (by decide) ?_ ?_
    · refine gm_iinc (v := 1) (lv' := [some (.ref (E.1 n 13)), some (.int (y1 + 1))]) dX0_freePlace_19 rfl (by decide) (by decide) rfl rfl ?_
      refine gm_goto (tgt := 2) dX0_freePlace_22 (by decide) ?_
      exact gm_weak (lsub_s (lsub_s lsub_0)) (hrc2 w (y1 + 1))
    · refine gm_iload_n dX0_freePlace_17 rfl rfl ?_
      exact gm_iret dX0_freePlace_18
noncomputable def h_X0_freePlace_2 (n : Nat) : Nat → (Wd → Int32 → Option (Int32 × Wd))
  | 0 => fun _ _ => none
  | fu + 1 => b_X0_freePlace_2 n   (h_X0_freePlace_2 n   fu)
set_option maxRecDepth 100000 in
set_option maxHeartbeats 4000000 in
theorem k_X0_freePlace_2 {l : Launch} {E : En} (n : Nat) (hn : n < 7) : ∀ (fu : Nat) (w : Wd) (y1 : Int32), Gm l E cX0_freePlace 2 RX0 (some .int) (rmk (1)) eI (h_X0_freePlace_2 n   fu w y1) w 2 [some (.ref (E.1 n 13)), some (.int (y1))] []
  | 0, _, _ => gm_none
  | fu + 1, w, y1 => kb_X0_freePlace_2 n hn   (h_X0_freePlace_2 n   fu)  (fun w y1 => k_X0_freePlace_2 n hn    fu w y1) w y1
noncomputable def f_X0_freePlace (n : Nat) (w : Wd) : Option (Int32 × Wd) :=
  h_X0_freePlace_2 n FU w 0
set_option maxRecDepth 100000 in
set_option maxHeartbeats 4000000 in
theorem t_X0_freePlace {l : Launch} {E : En} (n : Nat) (hn : n < 7) (w : Wd) : ∀ q, f_X0_freePlace  n w  = some q → Mt l E yX0_freePlace cX0_freePlace 2 (some .int) (rmk 1) [.ref (E.1 n 13)] w (eI q.1) q.2 := by
  refine Mt.of [some (.ref (E.1 n 13)), none] (plainFor_of_name pn_X0) rfl (Nat.le_of_ble_eq_true rfl) rfl ?_
  unfold f_X0_freePlace
  refine gm_iconst (v := 0) dX0_freePlace_0 (by decide) ?_
  refine gm_istore_n (lv' := [some (.ref (E.1 n 13)), some (.int (0))]) dX0_freePlace_1 rfl (by decide) rfl rfl ?_
  exact gm_weak (lsub_s (lsub_s lsub_0)) (k_X0_freePlace_2 n hn FU w 0)

noncomputable def b_X0_isBusy_2 (n : Nat) (rc2 : Wd → Int32 → Int32 → Option (Int32 × Wd)) (w : Wd) (y1 : Int32) (y2 : Int32) : Option (Int32 × Wd) :=
  if 10 ≤ y2 then
    some (0, w)
  else
    if ib y2 10 = true then
    if (w n 14 (Int32.toNatClampNeg y2)) = y1 then
      some (1, w)
    else
      rc2 w y1 (y2 + 1)
    else none
set_option maxRecDepth 100000 in
set_option maxHeartbeats 4000000 in
theorem kb_X0_isBusy_2 {l : Launch} {E : En} (n : Nat) (hn : n < 7) (rc2 : Wd → Int32 → Int32 → Option (Int32 × Wd)) (hrc2 : ∀ (w : Wd) (y1 : Int32) (y2 : Int32), Gm l E cX0_isBusy 3 RX0 (some .boolean) (rmk (1)) eI (rc2 w y1 y2) w 2 [some (.ref (E.1 n 13)), some (.int (y1)), some (.int (y2))] []) (w : Wd) (y1 : Int32) (y2 : Int32) : Gm l E cX0_isBusy 3 RX0 (some .boolean) (rmk (1)) eI (b_X0_isBusy_2 n  rc2 w y1 y2) w 2 [some (.ref (E.1 n 13)), some (.int (y1)), some (.int (y2))] [] := by
  unfold b_X0_isBusy_2
  refine gm_iload_n dX0_isBusy_2 rfl rfl ?_
  refine gm_bipush (v := 10) dX0_isBusy_3 (by decide) ?_
  refine gm_icmp_ge (tgt := 26) dX0_isBusy_5 (by decide) ?_ ?_
  · refine gm_iconst (v := 0) dX0_isBusy_26 (by decide) ?_
    exact gm_zret dX0_isBusy_27 rfl
  · refine gm_aload_n dX0_isBusy_8 rfl rfl ?_
    refine gm_get dX0_isBusy_9 (ce_n_13 (n := n) hn) rfl inX0 0 (by decide) tb_136 rfl rfl ?_
    refine gm_iload_n dX0_isBusy_12 rfl rfl ?_
    refine gm_iald dX0_isBusy_13 (ce_n_14 (n := n) hn) ?_
    refine gm_iload_n dX0_isBusy_14 rfl rfl ?_
    refine gm_icmp_ne (tgt := 20) dX0_isBusy_15 (by decide) ?_ ?_
    · refine gm_iinc (v := 1) (lv' := [some (.ref (E.1 n 13)), some (.int (y1)), some (.int (y2 + 1))]) dX0_isBusy_20 rfl (by decide) (by decide) rfl rfl ?_
      refine gm_goto (tgt := 2) dX0_isBusy_23 (by decide) ?_
      exact gm_weak (lsub_s (lsub_s (lsub_s lsub_0))) (hrc2 w y1 (y2 + 1))
    · refine gm_iconst (v := 1) dX0_isBusy_18 (by decide) ?_
      exact gm_zret dX0_isBusy_19 rfl
noncomputable def h_X0_isBusy_2 (n : Nat) : Nat → (Wd → Int32 → Int32 → Option (Int32 × Wd))
  | 0 => fun _ _ _ => none
  | fu + 1 => b_X0_isBusy_2 n   (h_X0_isBusy_2 n   fu)
set_option maxRecDepth 100000 in
set_option maxHeartbeats 4000000 in
theorem k_X0_isBusy_2 {l : Launch} {E : En} (n : Nat) (hn : n < 7) : ∀ (fu : Nat) (w : Wd) (y1 : Int32) (y2 : Int32), Gm l E cX0_isBusy 3 RX0 (some .boolean) (rmk (1)) eI (h_X0_isBusy_2 n   fu w y1 y2) w 2 [some (.ref (E.1 n 13)), some (.int (y1)), some (.int (y2))] []
  | 0, _, _, _ => gm_none
  | fu + 1, w, y1, y2 => kb_X0_isBusy_2 n hn   (h_X0_isBusy_2 n   fu)  (fun w y1 y2 => k_X0_isBusy_2 n hn    fu w y1 y2) w y1 y2
noncomputable def f_X0_isBusy (n : Nat) (w : Wd) (x1 : Int32) : Option (Int32 × Wd) :=
  h_X0_isBusy_2 n FU w x1 0
set_option maxRecDepth 100000 in
set_option maxHeartbeats 4000000 in
theorem t_X0_isBusy {l : Launch} {E : En} (n : Nat) (hn : n < 7) (w : Wd) (x1 : Int32) : ∀ q, f_X0_isBusy  n w x1 = some q → Mt l E yX0_isBusy cX0_isBusy 3 (some .boolean) (rmk 1) [.ref (E.1 n 13), .int (x1)] w (eI q.1) q.2 := by
  refine Mt.of [some (.ref (E.1 n 13)), some (.int (x1)), none] (plainFor_of_name pn_X0) rfl (Nat.le_of_ble_eq_true rfl) rfl ?_
  unfold f_X0_isBusy
  refine gm_iconst (v := 0) dX0_isBusy_0 (by decide) ?_
  refine gm_istore_n (lv' := [some (.ref (E.1 n 13)), some (.int (x1)), some (.int (0))]) dX0_isBusy_1 rfl (by decide) rfl rfl ?_
  exact gm_weak (lsub_s (lsub_s (lsub_s lsub_0))) (k_X0_isBusy_2 n hn FU w x1 0)

noncomputable def f_X0_length (n : Nat) (w : Wd) (x1 : Int32) : Option (Int32 × Wd) :=
  (f_X0_has n w x1).bind fun q1 =>
  if q1.1 = 0 then
    some (0, q1.2)
  else
    if ib x1 10 = true then
    some (q1.2 n 16 (Int32.toNatClampNeg x1), q1.2)
    else none
set_option maxRecDepth 100000 in
set_option maxHeartbeats 4000000 in
theorem t_X0_length {l : Launch} {E : En} (n : Nat) (hn : n < 7) (w : Wd) (x1 : Int32) : ∀ q, f_X0_length  n w x1 = some q → Mt l E yX0_length cX0_length 2 (some .int) (rmk 2) [.ref (E.1 n 13), .int (x1)] w (eI q.1) q.2 := by
  refine Mt.of [some (.ref (E.1 n 13)), some (.int (x1))] (plainFor_of_name pn_X0) rfl (Nat.le_of_ble_eq_true rfl) rfl ?_
  unfold f_X0_length
  refine gm_aload_n dX0_length_0 rfl rfl ?_
  refine gm_iload_n dX0_length_1 rfl rfl ?_
  refine gm_callVi (As := [.int (x1)]) dX0_length_2 (t_X0_has n hn w x1) (ce_n_13 (n := n) hn) rfl cy_X0_has tb_622 rfl rfl (rm_ok (by decide) (by decide)) (Nat.le_of_ble_eq_true rfl) (fun q1 => ?_)
  refine gm_if_eq (tgt := 17) dX0_length_5 (by decide) ?_ ?_
  · refine gm_iconst (v := 0) dX0_length_17 (by decide) ?_
    exact gm_iret dX0_length_18
  · refine gm_aload_n dX0_length_8 rfl rfl ?_
    refine gm_get dX0_length_9 (ce_n_13 (n := n) hn) rfl inX0 2 (by decide) tb_138 rfl rfl ?_
    refine gm_iload_n dX0_length_12 rfl rfl ?_
    refine gm_iald dX0_length_13 (ce_n_16 (n := n) hn) ?_
    refine gm_goto (tgt := 18) dX0_length_14 (by decide) ?_
    exact gm_iret dX0_length_18

noncomputable def f_X0_numberAt (n : Nat) (w : Wd) (x1 : Int32) : Option (Int32 × Wd) :=
  (f_X0_has n w x1).bind fun q1 =>
  if q1.1 = 0 then
    some ((-9), q1.2)
  else
    if ib x1 10 = true then
    some (q1.2 n 14 (Int32.toNatClampNeg x1), q1.2)
    else none
set_option maxRecDepth 100000 in
set_option maxHeartbeats 4000000 in
theorem t_X0_numberAt {l : Launch} {E : En} (n : Nat) (hn : n < 7) (w : Wd) (x1 : Int32) : ∀ q, f_X0_numberAt  n w x1 = some q → Mt l E yX0_numberAt cX0_numberAt 2 (some .int) (rmk 2) [.ref (E.1 n 13), .int (x1)] w (eI q.1) q.2 := by
  refine Mt.of [some (.ref (E.1 n 13)), some (.int (x1))] (plainFor_of_name pn_X0) rfl (Nat.le_of_ble_eq_true rfl) rfl ?_
  unfold f_X0_numberAt
  refine gm_aload_n dX0_numberAt_0 rfl rfl ?_
  refine gm_iload_n dX0_numberAt_1 rfl rfl ?_
  refine gm_callVi (As := [.int (x1)]) dX0_numberAt_2 (t_X0_has n hn w x1) (ce_n_13 (n := n) hn) rfl cy_X0_has tb_622 rfl rfl (rm_ok (by decide) (by decide)) (Nat.le_of_ble_eq_true rfl) (fun q1 => ?_)
  refine gm_if_eq (tgt := 17) dX0_numberAt_5 (by decide) ?_ ?_
  · refine gm_bipush (v := (-9)) dX0_numberAt_17 (by decide) ?_
    exact gm_iret dX0_numberAt_19
  · refine gm_aload_n dX0_numberAt_8 rfl rfl ?_
    refine gm_get dX0_numberAt_9 (ce_n_13 (n := n) hn) rfl inX0 0 (by decide) tb_136 rfl rfl ?_
    refine gm_iload_n dX0_numberAt_12 rfl rfl ?_
    refine gm_iald dX0_numberAt_13 (ce_n_14 (n := n) hn) ?_
    refine gm_goto (tgt := 19) dX0_numberAt_14 (by decide) ?_
    exact gm_iret dX0_numberAt_19

noncomputable def f_X0_put (n : Nat) (w : Wd) (x1 : Int32) (x2 : Int32) (x3 : Int32) : Option (Unit × Wd) :=
  if (p_X9_inRange w x1 0 9) = 0 then
    some ((), w)
  else
    if ib x1 10 = true then
    letw (wup w n 14 (Int32.toNatClampNeg x1) x2) fun w1 =>
    if ib x1 10 = true then
    letw (wup w1 n 15 (Int32.toNatClampNeg x1) x3) fun w2 =>
    if ib x1 10 = true then
    letw (wup w2 n 16 (Int32.toNatClampNeg x1) 0) fun w3 =>
    letw (wup w3 n 13 4 ((w3 n 13 4) + 1)) fun w4 =>
    some ((), w4)
    else none
    else none
    else none
set_option maxRecDepth 100000 in
set_option maxHeartbeats 4000000 in
theorem t_X0_put {l : Launch} {E : En} (n : Nat) (hn : n < 7) (w : Wd) (x1 : Int32) (x2 : Int32) (x3 : Int32) : ∀ q, f_X0_put  n w x1 x2 x3 = some q → Mt l E yX0_put cX0_put 4 none (rmk 2) [.ref (E.1 n 13), .int (x1), .int (x2), .int (x3)] w (eV q.1) q.2 := by
  refine Mt.of [some (.ref (E.1 n 13)), some (.int (x1)), some (.int (x2)), some (.int (x3))] (plainFor_of_name pn_X0) rfl (Nat.le_of_ble_eq_true rfl) rfl ?_
  unfold f_X0_put
  refine gm_iload_n dX0_put_0 rfl rfl ?_
  refine gm_iconst (v := 0) dX0_put_1 (by decide) ?_
  refine gm_bipush (v := 9) dX0_put_2 (by decide) ?_
  refine gm_callNk (As := [.int (x1), .int (0), .int (9)]) dX0_put_4 (tk_X9_inRange w x1 0 9) cy_X9_inRange tb_609 rfl rfl (rm_ok (by decide) (by decide)) (Nat.le_of_ble_eq_true rfl) ?_
  refine gm_if_eq (tgt := 41) dX0_put_7 (by decide) ?_ ?_
  · exact gm_vret dX0_put_41
  · refine gm_aload_n dX0_put_10 rfl rfl ?_
    refine gm_get dX0_put_11 (ce_n_13 (n := n) hn) rfl inX0 0 (by decide) tb_136 rfl rfl ?_
    refine gm_iload_n dX0_put_14 rfl rfl ?_
    refine gm_iload_n dX0_put_15 rfl rfl ?_
    refine gm_iast dX0_put_16 (ce_n_14 (n := n) hn) (fun w1 => ?_)
    refine gm_aload_n dX0_put_17 rfl rfl ?_
    refine gm_get dX0_put_18 (ce_n_13 (n := n) hn) rfl inX0 1 (by decide) tb_137 rfl rfl ?_
    refine gm_iload_n dX0_put_21 rfl rfl ?_
    refine gm_iload_n dX0_put_22 rfl rfl ?_
    refine gm_iast dX0_put_23 (ce_n_15 (n := n) hn) (fun w2 => ?_)
    refine gm_aload_n dX0_put_24 rfl rfl ?_
    refine gm_get dX0_put_25 (ce_n_13 (n := n) hn) rfl inX0 2 (by decide) tb_138 rfl rfl ?_
    refine gm_iload_n dX0_put_28 rfl rfl ?_
    refine gm_iconst (v := 0) dX0_put_29 (by decide) ?_
    refine gm_iast dX0_put_30 (ce_n_16 (n := n) hn) (fun w3 => ?_)
    refine gm_aload_n dX0_put_31 rfl rfl ?_
    refine gm_dup dX0_put_32 rfl ?_
    refine gm_get dX0_put_33 (ce_n_13 (n := n) hn) rfl inX0 4 (by decide) tb_140 rfl rfl ?_
    refine gm_iconst (v := 1) dX0_put_36 (by decide) ?_
    refine gm_iadd dX0_put_37 ?_
    refine gm_put dX0_put_38 (ce_n_13 (n := n) hn) rfl inX0 tyX0 tyX0_ok nmX0 4 (by decide) tb_140 rfl rfl (by decide +kernel) (fun _ => rfl) (fun _ => rfl) (fun w4 => ?_)
    exact gm_vret dX0_put_41

noncomputable def f_X0_remove (n : Nat) (w : Wd) (x1 : Int32) : Option (Unit × Wd) :=
  (f_X0_has n w x1).bind fun q1 =>
  if q1.1 = 0 then
    some ((), q1.2)
  else
    if ib x1 10 = true then
    letw (wup q1.2 n 14 (Int32.toNatClampNeg x1) 0) fun w2 =>
    letw (wup w2 n 13 4 ((w2 n 13 4) - 1)) fun w3 =>
    some ((), w3)
    else none
set_option maxRecDepth 100000 in
set_option maxHeartbeats 4000000 in
theorem t_X0_remove {l : Launch} {E : En} (n : Nat) (hn : n < 7) (w : Wd) (x1 : Int32) : ∀ q, f_X0_remove  n w x1 = some q → Mt l E yX0_remove cX0_remove 2 none (rmk 2) [.ref (E.1 n 13), .int (x1)] w (eV q.1) q.2 := by
  refine Mt.of [some (.ref (E.1 n 13)), some (.int (x1))] (plainFor_of_name pn_X0) rfl (Nat.le_of_ble_eq_true rfl) rfl ?_
  unfold f_X0_remove
  refine gm_aload_n dX0_remove_0 rfl rfl ?_
  refine gm_iload_n dX0_remove_1 rfl rfl ?_
  refine gm_callVi (As := [.int (x1)]) dX0_remove_2 (t_X0_has n hn w x1) (ce_n_13 (n := n) hn) rfl cy_X0_has tb_622 rfl rfl (rm_ok (by decide) (by decide)) (Nat.le_of_ble_eq_true rfl) (fun q1 => ?_)
  refine gm_if_eq (tgt := 25) dX0_remove_5 (by decide) ?_ ?_
  · exact gm_vret dX0_remove_25
  · refine gm_aload_n dX0_remove_8 rfl rfl ?_
    refine gm_get dX0_remove_9 (ce_n_13 (n := n) hn) rfl inX0 0 (by decide) tb_136 rfl rfl ?_
    refine gm_iload_n dX0_remove_12 rfl rfl ?_
    refine gm_iconst (v := 0) dX0_remove_13 (by decide) ?_
    refine gm_iast dX0_remove_14 (ce_n_14 (n := n) hn) (fun w2 => ?_)
    refine gm_aload_n dX0_remove_15 rfl rfl ?_
    refine gm_dup dX0_remove_16 rfl ?_
    refine gm_get dX0_remove_17 (ce_n_13 (n := n) hn) rfl inX0 4 (by decide) tb_140 rfl rfl ?_
    refine gm_iconst (v := 1) dX0_remove_20 (by decide) ?_
    refine gm_isub dX0_remove_21 ?_
    refine gm_put dX0_remove_22 (ce_n_13 (n := n) hn) rfl inX0 tyX0 tyX0_ok nmX0 4 (by decide) tb_140 rfl rfl (by decide +kernel) (fun _ => rfl) (fun _ => rfl) (fun w3 => ?_)
    exact gm_vret dX0_remove_25

noncomputable def f_X0_size (n : Nat) (w : Wd) : Option (Int32 × Wd) :=
  some (w n 13 4, w)
set_option maxRecDepth 100000 in
set_option maxHeartbeats 4000000 in
theorem t_X0_size {l : Launch} {E : En} (n : Nat) (hn : n < 7) (w : Wd) : ∀ q, f_X0_size  n w  = some q → Mt l E yX0_size cX0_size 1 (some .int) (rmk 1) [.ref (E.1 n 13)] w (eI q.1) q.2 := by
  refine Mt.of [some (.ref (E.1 n 13))] (plainFor_of_name pn_X0) rfl (Nat.le_of_ble_eq_true rfl) rfl ?_
  unfold f_X0_size
  refine gm_aload_n dX0_size_0 rfl rfl ?_
  refine gm_get dX0_size_1 (ce_n_13 (n := n) hn) rfl inX0 4 (by decide) tb_140 rfl rfl ?_
  exact gm_iret dX0_size_4
noncomputable def p_X0_size (n : Nat) (w : Wd) : Int32 :=
  w n 13 4
theorem fp_X0_size (n : Nat) (w : Wd) : f_X0_size n w  = some (p_X0_size n w , w) := by
  unfold f_X0_size p_X0_size
  (try simp only [leti, letl])
  repeat' (first | rfl | split)
theorem tk_X0_size {l : Launch} {E : En} (n : Nat) (hn : n < 7) (w : Wd) : Mt l E yX0_size cX0_size 1 (some .int) (rmk 1) [.ref (E.1 n 13)] w (some (.int (p_X0_size n w ))) w := t_X0_size n hn w  _ (fp_X0_size n w )

noncomputable def f_X0_startOf (n : Nat) (w : Wd) (x1 : Int32) : Option (Int32 × Wd) :=
  (f_X0_has n w x1).bind fun q1 =>
  if q1.1 = 0 then
    some (0, q1.2)
  else
    if ib x1 10 = true then
    some (q1.2 n 15 (Int32.toNatClampNeg x1), q1.2)
    else none
set_option maxRecDepth 100000 in
set_option maxHeartbeats 4000000 in
theorem t_X0_startOf {l : Launch} {E : En} (n : Nat) (hn : n < 7) (w : Wd) (x1 : Int32) : ∀ q, f_X0_startOf  n w x1 = some q → Mt l E yX0_startOf cX0_startOf 2 (some .int) (rmk 2) [.ref (E.1 n 13), .int (x1)] w (eI q.1) q.2 := by
  refine Mt.of [some (.ref (E.1 n 13)), some (.int (x1))] (plainFor_of_name pn_X0) rfl (Nat.le_of_ble_eq_true rfl) rfl ?_
  unfold f_X0_startOf
  refine gm_aload_n dX0_startOf_0 rfl rfl ?_
  refine gm_iload_n dX0_startOf_1 rfl rfl ?_
  refine gm_callVi (As := [.int (x1)]) dX0_startOf_2 (t_X0_has n hn w x1) (ce_n_13 (n := n) hn) rfl cy_X0_has tb_622 rfl rfl (rm_ok (by decide) (by decide)) (Nat.le_of_ble_eq_true rfl) (fun q1 => ?_)
  refine gm_if_eq (tgt := 17) dX0_startOf_5 (by decide) ?_ ?_
  · refine gm_iconst (v := 0) dX0_startOf_17 (by decide) ?_
    exact gm_iret dX0_startOf_18
  · refine gm_aload_n dX0_startOf_8 rfl rfl ?_
    refine gm_get dX0_startOf_9 (ce_n_13 (n := n) hn) rfl inX0 1 (by decide) tb_137 rfl rfl ?_
    refine gm_iload_n dX0_startOf_12 rfl rfl ?_
    refine gm_iald dX0_startOf_13 (ce_n_15 (n := n) hn) ?_
    refine gm_goto (tgt := 18) dX0_startOf_14 (by decide) ?_
    exact gm_iret dX0_startOf_18

noncomputable def f_X0_step (n : Nat) (w : Wd) (x1 : Int32) (x2 : Int32) : Option (Int32 × Wd) :=
  if x2 < 0 then
    some ((-9), w)
  else
    (f_X0_length n w x1).bind fun q1 =>
    if q1.1 ≤ x2 then
      some ((-9), q1.2)
    else
      if 6 ≤ x2 then
        some ((-9), q1.2)
      else
        if ib ((x1 * 6) + x2) 60 = true then
        some (q1.2 n 17 (Int32.toNatClampNeg ((x1 * 6) + x2)), q1.2)
        else none
set_option maxRecDepth 100000 in
set_option maxHeartbeats 4000000 in
theorem t_X0_step {l : Launch} {E : En} (n : Nat) (hn : n < 7) (w : Wd) (x1 : Int32) (x2 : Int32) : ∀ q, f_X0_step  n w x1 x2 = some q → Mt l E yX0_step cX0_step 3 (some .int) (rmk 3) [.ref (E.1 n 13), .int (x1), .int (x2)] w (eI q.1) q.2 := by
  refine Mt.of [some (.ref (E.1 n 13)), some (.int (x1)), some (.int (x2))] (plainFor_of_name pn_X0) rfl (Nat.le_of_ble_eq_true rfl) rfl ?_
  unfold f_X0_step
  refine gm_iload_n dX0_step_0 rfl rfl ?_
  refine gm_if_lt (tgt := 33) dX0_step_1 (by decide) ?_ ?_
  · refine gm_bipush (v := (-9)) dX0_step_33 (by decide) ?_
    exact gm_iret dX0_step_35
  · refine gm_iload_n dX0_step_4 rfl rfl ?_
    refine gm_aload_n dX0_step_5 rfl rfl ?_
    refine gm_iload_n dX0_step_6 rfl rfl ?_
    refine gm_callVi (As := [.int (x1)]) dX0_step_7 (t_X0_length n hn w x1) (ce_n_13 (n := n) hn) rfl cy_X0_length tb_655 rfl rfl (rm_ok (by decide) (by decide)) (Nat.le_of_ble_eq_true rfl) (fun q1 => ?_)
    refine gm_icmp_ge (tgt := 33) dX0_step_10 (by decide) ?_ ?_
    · refine gm_bipush (v := (-9)) dX0_step_33 (by decide) ?_
      exact gm_iret dX0_step_35
    · refine gm_iload_n dX0_step_13 rfl rfl ?_
      refine gm_bipush (v := 6) dX0_step_14 (by decide) ?_
      refine gm_icmp_ge (tgt := 33) dX0_step_16 (by decide) ?_ ?_
      · refine gm_bipush (v := (-9)) dX0_step_33 (by decide) ?_
        exact gm_iret dX0_step_35
      · refine gm_aload_n dX0_step_19 rfl rfl ?_
        refine gm_get dX0_step_20 (ce_n_13 (n := n) hn) rfl inX0 3 (by decide) tb_139 rfl rfl ?_
        refine gm_iload_n dX0_step_23 rfl rfl ?_
        refine gm_bipush (v := 6) dX0_step_24 (by decide) ?_
        refine gm_imul dX0_step_26 ?_
        refine gm_iload_n dX0_step_27 rfl rfl ?_
        refine gm_iadd dX0_step_28 ?_
        refine gm_iald dX0_step_29 (ce_n_17 (n := n) hn) ?_
        refine gm_goto (tgt := 35) dX0_step_30 (by decide) ?_
        exact gm_iret dX0_step_35

noncomputable def b_X5_indexOf_2 (n : Nat) (rc2 : Wd → Int32 → Int32 → Option (Int32 × Wd)) (w : Wd) (y1 : Int32) (y2 : Int32) : Option (Int32 × Wd) :=
  if (w n 10 2) ≤ y2 then
    some ((-9), w)
  else
    if 30 ≤ y2 then
      some ((-9), w)
    else
      if ib y2 30 = true then
      if (w n 11 (Int32.toNatClampNeg y2)) = y1 then
        some (y2, w)
      else
        rc2 w y1 (y2 + 1)
      else none
set_option maxRecDepth 100000 in
set_option maxHeartbeats 4000000 in
theorem kb_X5_indexOf_2 {l : Launch} {E : En} (n : Nat) (hn : n < 7) (rc2 : Wd → Int32 → Int32 → Option (Int32 × Wd)) (hrc2 : ∀ (w : Wd) (y1 : Int32) (y2 : Int32), Gm l E cX5_indexOf 3 RX5 (some .int) (rmk (1)) eI (rc2 w y1 y2) w 2 [some (.ref (E.1 n 10)), some (.int (y1)), some (.int (y2))] []) (w : Wd) (y1 : Int32) (y2 : Int32) : Gm l E cX5_indexOf 3 RX5 (some .int) (rmk (1)) eI (b_X5_indexOf_2 n  rc2 w y1 y2) w 2 [some (.ref (E.1 n 10)), some (.int (y1)), some (.int (y2))] [] := by
  unfold b_X5_indexOf_2
  refine gm_iload_n dX5_indexOf_2 rfl rfl ?_
  refine gm_aload_n dX5_indexOf_3 rfl rfl ?_
  refine gm_get dX5_indexOf_4 (ce_n_10 (n := n) hn) rfl inX5 2 (by decide) tb_122 rfl rfl ?_
  refine gm_icmp_ge (tgt := 34) dX5_indexOf_7 (by decide) ?_ ?_
  · refine gm_bipush (v := (-9)) dX5_indexOf_34 (by decide) ?_
    exact gm_iret dX5_indexOf_36
  · refine gm_iload_n dX5_indexOf_10 rfl rfl ?_
    refine gm_bipush (v := 30) dX5_indexOf_11 (by decide) ?_
    refine gm_icmp_ge (tgt := 34) dX5_indexOf_13 (by decide) ?_ ?_
    · refine gm_bipush (v := (-9)) dX5_indexOf_34 (by decide) ?_
      exact gm_iret dX5_indexOf_36
    · refine gm_aload_n dX5_indexOf_16 rfl rfl ?_
      refine gm_get dX5_indexOf_17 (ce_n_10 (n := n) hn) rfl inX5 0 (by decide) tb_120 rfl rfl ?_
      refine gm_iload_n dX5_indexOf_20 rfl rfl ?_
      refine gm_iald dX5_indexOf_21 (ce_n_11 (n := n) hn) ?_
      refine gm_iload_n dX5_indexOf_22 rfl rfl ?_
      refine gm_icmp_ne (tgt := 28) dX5_indexOf_23 (by decide) ?_ ?_
      · refine gm_iinc (v := 1) (lv' := [some (.ref (E.1 n 10)), some (.int (y1)), some (.int (y2 + 1))]) dX5_indexOf_28 rfl (by decide) (by decide) rfl rfl ?_
        refine gm_goto (tgt := 2) dX5_indexOf_31 (by decide) ?_
        exact gm_weak (lsub_s (lsub_s (lsub_s lsub_0))) (hrc2 w y1 (y2 + 1))
      · refine gm_iload_n dX5_indexOf_26 rfl rfl ?_
        exact gm_iret dX5_indexOf_27
noncomputable def h_X5_indexOf_2 (n : Nat) : Nat → (Wd → Int32 → Int32 → Option (Int32 × Wd))
  | 0 => fun _ _ _ => none
  | fu + 1 => b_X5_indexOf_2 n   (h_X5_indexOf_2 n   fu)
set_option maxRecDepth 100000 in
set_option maxHeartbeats 4000000 in
theorem k_X5_indexOf_2 {l : Launch} {E : En} (n : Nat) (hn : n < 7) : ∀ (fu : Nat) (w : Wd) (y1 : Int32) (y2 : Int32), Gm l E cX5_indexOf 3 RX5 (some .int) (rmk (1)) eI (h_X5_indexOf_2 n   fu w y1 y2) w 2 [some (.ref (E.1 n 10)), some (.int (y1)), some (.int (y2))] []
  | 0, _, _, _ => gm_none
  | fu + 1, w, y1, y2 => kb_X5_indexOf_2 n hn   (h_X5_indexOf_2 n   fu)  (fun w y1 y2 => k_X5_indexOf_2 n hn    fu w y1 y2) w y1 y2
noncomputable def f_X5_indexOf (n : Nat) (w : Wd) (x1 : Int32) : Option (Int32 × Wd) :=
  h_X5_indexOf_2 n FU w x1 0
set_option maxRecDepth 100000 in
set_option maxHeartbeats 4000000 in
theorem t_X5_indexOf {l : Launch} {E : En} (n : Nat) (hn : n < 7) (w : Wd) (x1 : Int32) : ∀ q, f_X5_indexOf  n w x1 = some q → Mt l E yX5_indexOf cX5_indexOf 3 (some .int) (rmk 1) [.ref (E.1 n 10), .int (x1)] w (eI q.1) q.2 := by
  refine Mt.of [some (.ref (E.1 n 10)), some (.int (x1)), none] (plainFor_of_name pn_X5) rfl (Nat.le_of_ble_eq_true rfl) rfl ?_
  unfold f_X5_indexOf
  refine gm_iconst (v := 0) dX5_indexOf_0 (by decide) ?_
  refine gm_istore_n (lv' := [some (.ref (E.1 n 10)), some (.int (x1)), some (.int (0))]) dX5_indexOf_1 rfl (by decide) rfl rfl ?_
  exact gm_weak (lsub_s (lsub_s (lsub_s lsub_0))) (k_X5_indexOf_2 n hn FU w x1 0)

noncomputable def f_X5_switchOf (n : Nat) (w : Wd) (x1 : Int32) : Option (Int32 × Wd) :=
  (f_X5_indexOf n w x1).bind fun q1 =>
  if q1.1 < 0 then
    some ((-9), q1.2)
  else
    if ib q1.1 30 = true then
    some (q1.2 n 12 (Int32.toNatClampNeg q1.1), q1.2)
    else none
set_option maxRecDepth 100000 in
set_option maxHeartbeats 4000000 in
theorem t_X5_switchOf {l : Launch} {E : En} (n : Nat) (hn : n < 7) (w : Wd) (x1 : Int32) : ∀ q, f_X5_switchOf  n w x1 = some q → Mt l E yX5_switchOf cX5_switchOf 3 (some .int) (rmk 2) [.ref (E.1 n 10), .int (x1)] w (eI q.1) q.2 := by
  refine Mt.of [some (.ref (E.1 n 10)), some (.int (x1)), none] (plainFor_of_name pn_X5) rfl (Nat.le_of_ble_eq_true rfl) rfl ?_
  unfold f_X5_switchOf
  refine gm_aload_n dX5_switchOf_0 rfl rfl ?_
  refine gm_iload_n dX5_switchOf_1 rfl rfl ?_
  refine gm_callVi (As := [.int (x1)]) dX5_switchOf_2 (t_X5_indexOf n hn w x1) (ce_n_10 (n := n) hn) rfl cy_X5_indexOf tb_450 rfl rfl (rm_ok (by decide) (by decide)) (Nat.le_of_ble_eq_true rfl) (fun q1 => ?_)
  refine gm_istore_n (lv' := [some (.ref (E.1 n 10)), some (.int (x1)), some (.int (q1.1))]) dX5_switchOf_5 rfl (by decide) rfl rfl ?_
  refine gm_iload_n dX5_switchOf_6 rfl rfl ?_
  refine gm_if_lt (tgt := 19) dX5_switchOf_7 (by decide) ?_ ?_
  · refine gm_bipush (v := (-9)) dX5_switchOf_19 (by decide) ?_
    exact gm_iret dX5_switchOf_21
  · refine gm_aload_n dX5_switchOf_10 rfl rfl ?_
    refine gm_get dX5_switchOf_11 (ce_n_10 (n := n) hn) rfl inX5 1 (by decide) tb_121 rfl rfl ?_
    refine gm_iload_n dX5_switchOf_14 rfl rfl ?_
    refine gm_iald dX5_switchOf_15 (ce_n_12 (n := n) hn) ?_
    refine gm_goto (tgt := 21) dX5_switchOf_16 (by decide) ?_
    exact gm_iret dX5_switchOf_21

noncomputable def b_X9_digitsOf_14 (rc14 : Wd → Int32 → Int32 → Int64 → Int32 → Option (Int64 × Wd)) (w : Wd) (y0 : Int32) (y1 : Int32) (y2 : Int64) (y4 : Int32) : Option (Int64 × Wd) :=
  if 9 ≤ y4 then
    some (((9900 + (Int32.toInt64 y1)) * y2) + (Int32.toInt64 y0), w)
  else
    if 0 < (lg_cmp y2 (Int32.toInt64 y0)) then
      some (((9900 + (Int32.toInt64 y1)) * y2) + (Int32.toInt64 y0), w)
    else
      letl (y2 * 10) fun u1 =>
      rc14 w y0 y1 u1 (y4 + 1)
set_option maxRecDepth 100000 in
set_option maxHeartbeats 4000000 in
theorem kb_X9_digitsOf_14 {l : Launch} {E : En} (rc14 : Wd → Int32 → Int32 → Int64 → Int32 → Option (Int64 × Wd)) (hrc14 : ∀ (w : Wd) (y0 : Int32) (y1 : Int32) (y2 : Int64) (y4 : Int32), Gm l E cX9_digitsOf 5 RX9 (some .long) (rmk (1)) eL (rc14 w y0 y1 y2 y4) w 14 [some (.int (y0)), some (.int (y1)), some (.long (y2)), none, some (.int (y4))] []) (w : Wd) (y0 : Int32) (y1 : Int32) (y2 : Int64) (y4 : Int32) : Gm l E cX9_digitsOf 5 RX9 (some .long) (rmk (1)) eL (b_X9_digitsOf_14   rc14 w y0 y1 y2 y4) w 14 [some (.int (y0)), some (.int (y1)), some (.long (y2)), none, some (.int (y4))] [] := by
  unfold b_X9_digitsOf_14
  refine gm_iload dX9_digitsOf_14 rfl ?_
  refine gm_bipush (v := 9) dX9_digitsOf_16 (by decide) ?_
  refine gm_icmp_ge (tgt := 40) dX9_digitsOf_18 (by decide) ?_ ?_
  · refine gm_ldc2 (v := 9900) dX9_digitsOf_40 tb_537 ?_
    refine gm_iload_n dX9_digitsOf_43 rfl rfl ?_
    refine gm_i2l dX9_digitsOf_44 ?_
    refine gm_ladd dX9_digitsOf_45 ?_
    refine gm_lload_n dX9_digitsOf_46 rfl rfl ?_
    refine gm_lmul dX9_digitsOf_47 ?_
    refine gm_iload_n dX9_digitsOf_48 rfl rfl ?_
    refine gm_i2l dX9_digitsOf_49 ?_
    refine gm_ladd dX9_digitsOf_50 ?_
    exact gm_lret dX9_digitsOf_51
  · refine gm_lload_n dX9_digitsOf_21 rfl rfl ?_
    refine gm_iload_n dX9_digitsOf_22 rfl rfl ?_
    refine gm_i2l dX9_digitsOf_23 ?_
    refine gm_lcmp dX9_digitsOf_24 ?_
    refine gm_if_gt (tgt := 40) dX9_digitsOf_25 (by decide) ?_ ?_
    · refine gm_ldc2 (v := 9900) dX9_digitsOf_40 tb_537 ?_
      refine gm_iload_n dX9_digitsOf_43 rfl rfl ?_
      refine gm_i2l dX9_digitsOf_44 ?_
      refine gm_ladd dX9_digitsOf_45 ?_
      refine gm_lload_n dX9_digitsOf_46 rfl rfl ?_
      refine gm_lmul dX9_digitsOf_47 ?_
      refine gm_iload_n dX9_digitsOf_48 rfl rfl ?_
      refine gm_i2l dX9_digitsOf_49 ?_
      refine gm_ladd dX9_digitsOf_50 ?_
      exact gm_lret dX9_digitsOf_51
    · refine gm_lload_n dX9_digitsOf_28 rfl rfl ?_
      refine gm_ldc2 (v := 10) dX9_digitsOf_29 tb_536 ?_
      refine gm_lmul dX9_digitsOf_32 ?_
      refine gm_letl_st (fun u1 => ?_)
      refine gm_lstore_n (lv' := [some (.int (y0)), some (.int (y1)), some (.long (u1)), none, some (.int (y4))]) dX9_digitsOf_33 rfl (by decide) rfl rfl ?_
      refine gm_iinc (v := 1) (lv' := [some (.int (y0)), some (.int (y1)), some (.long (u1)), none, some (.int (y4 + 1))]) dX9_digitsOf_34 rfl (by decide) (by decide) rfl rfl ?_
      refine gm_goto (tgt := 14) dX9_digitsOf_37 (by decide) ?_
      exact gm_weak (lsub_s (lsub_s (lsub_s (lsub_n (lsub_s lsub_0))))) (hrc14 w y0 y1 u1 (y4 + 1))
noncomputable def h_X9_digitsOf_14 : Nat → (Wd → Int32 → Int32 → Int64 → Int32 → Option (Int64 × Wd))
  | 0 => fun _ _ _ _ _ => none
  | fu + 1 => b_X9_digitsOf_14    (h_X9_digitsOf_14    fu)
set_option maxRecDepth 100000 in
set_option maxHeartbeats 4000000 in
theorem k_X9_digitsOf_14 {l : Launch} {E : En} : ∀ (fu : Nat) (w : Wd) (y0 : Int32) (y1 : Int32) (y2 : Int64) (y4 : Int32), Gm l E cX9_digitsOf 5 RX9 (some .long) (rmk (1)) eL (h_X9_digitsOf_14    fu w y0 y1 y2 y4) w 14 [some (.int (y0)), some (.int (y1)), some (.long (y2)), none, some (.int (y4))] []
  | 0, _, _, _, _, _ => gm_none
  | fu + 1, w, y0, y1, y2, y4 => kb_X9_digitsOf_14     (h_X9_digitsOf_14    fu)  (fun w y0 y1 y2 y4 => k_X9_digitsOf_14      fu w y0 y1 y2 y4) w y0 y1 y2 y4
noncomputable def f_X9_digitsOf (w : Wd) (x0 : Int32) (x1 : Int32) : Option (Int64 × Wd) :=
  if x1 = (-9) then
    some (Int32.toInt64 x0, w)
  else
    h_X9_digitsOf_14 FU w x0 x1 1 0
set_option maxRecDepth 100000 in
set_option maxHeartbeats 4000000 in
theorem t_X9_digitsOf {l : Launch} {E : En} (w : Wd) (x0 : Int32) (x1 : Int32) : ∀ q, f_X9_digitsOf   w x0 x1 = some q → Mt l E yX9_digitsOf cX9_digitsOf 5 (some .long) (rmk 1) [.int (x0), .int (x1)] w (eL q.1) q.2 := by
  refine Mt.of [some (.int (x0)), some (.int (x1)), none, none, none] (plainFor_of_name pn_X9) rfl (Nat.le_of_ble_eq_true rfl) rfl ?_
  unfold f_X9_digitsOf
  refine gm_iload_n dX9_digitsOf_0 rfl rfl ?_
  refine gm_bipush (v := (-9)) dX9_digitsOf_1 (by decide) ?_
  refine gm_icmp_ne (tgt := 9) dX9_digitsOf_3 (by decide) ?_ ?_
  · refine gm_lconst (v := 1) dX9_digitsOf_9 (by decide) ?_
    refine gm_lstore_n (lv' := [some (.int (x0)), some (.int (x1)), some (.long (1)), none, none]) dX9_digitsOf_10 rfl (by decide) rfl rfl ?_
    refine gm_iconst (v := 0) dX9_digitsOf_11 (by decide) ?_
    refine gm_istore (lv' := [some (.int (x0)), some (.int (x1)), some (.long (1)), none, some (.int (0))]) dX9_digitsOf_12 (by decide) rfl rfl ?_
    exact gm_weak (lsub_s (lsub_s (lsub_s (lsub_n (lsub_s lsub_0))))) (k_X9_digitsOf_14 FU w x0 x1 1 0)
  · refine gm_iload_n dX9_digitsOf_6 rfl rfl ?_
    refine gm_i2l dX9_digitsOf_7 ?_
    exact gm_lret dX9_digitsOf_8

noncomputable def b_X9_beginsWith_5 (rc5 : Wd → Int32 → Int64 → Int32 → Option (Int32 × Wd)) (w : Wd) (y2 : Int32) (y3 : Int64) (y5 : Int32) : Option (Int32 × Wd) :=
  if 13 ≤ y5 then
    if (lg_cmp y3 (Int32.toInt64 y2)) = 0 then
      some (1, w)
    else
      some (0, w)
  else
    if (lg_cmp y3 (Int32.toInt64 y2)) ≤ 0 then
      if (lg_cmp y3 (Int32.toInt64 y2)) = 0 then
        some (1, w)
      else
        some (0, w)
    else
      letl (y3 / 10) fun u1 =>
      rc5 w y2 u1 (y5 + 1)
set_option maxRecDepth 100000 in
set_option maxHeartbeats 4000000 in
theorem kb_X9_beginsWith_5 {l : Launch} {E : En} (rc5 : Wd → Int32 → Int64 → Int32 → Option (Int32 × Wd)) (hrc5 : ∀ (w : Wd) (y2 : Int32) (y3 : Int64) (y5 : Int32), Gm l E cX9_beginsWith 6 RX9 (some .boolean) (rmk (1)) eI (rc5 w y2 y3 y5) w 5 [none, none, some (.int (y2)), some (.long (y3)), none, some (.int (y5))] []) (w : Wd) (y2 : Int32) (y3 : Int64) (y5 : Int32) : Gm l E cX9_beginsWith 6 RX9 (some .boolean) (rmk (1)) eI (b_X9_beginsWith_5   rc5 w y2 y3 y5) w 5 [none, none, some (.int (y2)), some (.long (y3)), none, some (.int (y5))] [] := by
  unfold b_X9_beginsWith_5
  refine gm_iload dX9_beginsWith_5 rfl ?_
  refine gm_bipush (v := 13) dX9_beginsWith_7 (by decide) ?_
  refine gm_icmp_ge (tgt := 31) dX9_beginsWith_9 (by decide) ?_ ?_
  · refine gm_lload_n dX9_beginsWith_31 rfl rfl ?_
    refine gm_iload_n dX9_beginsWith_32 rfl rfl ?_
    refine gm_i2l dX9_beginsWith_33 ?_
    refine gm_lcmp dX9_beginsWith_34 ?_
    refine gm_if_ne (tgt := 42) dX9_beginsWith_35 (by decide) ?_ ?_
    · refine gm_iconst (v := 0) dX9_beginsWith_42 (by decide) ?_
      exact gm_zret dX9_beginsWith_43 rfl
    · refine gm_iconst (v := 1) dX9_beginsWith_38 (by decide) ?_
      refine gm_goto (tgt := 43) dX9_beginsWith_39 (by decide) ?_
      exact gm_zret dX9_beginsWith_43 rfl
  · refine gm_lload_n dX9_beginsWith_12 rfl rfl ?_
    refine gm_iload_n dX9_beginsWith_13 rfl rfl ?_
    refine gm_i2l dX9_beginsWith_14 ?_
    refine gm_lcmp dX9_beginsWith_15 ?_
    refine gm_if_le (tgt := 31) dX9_beginsWith_16 (by decide) ?_ ?_
    · refine gm_lload_n dX9_beginsWith_31 rfl rfl ?_
      refine gm_iload_n dX9_beginsWith_32 rfl rfl ?_
      refine gm_i2l dX9_beginsWith_33 ?_
      refine gm_lcmp dX9_beginsWith_34 ?_
      refine gm_if_ne (tgt := 42) dX9_beginsWith_35 (by decide) ?_ ?_
      · refine gm_iconst (v := 0) dX9_beginsWith_42 (by decide) ?_
        exact gm_zret dX9_beginsWith_43 rfl
      · refine gm_iconst (v := 1) dX9_beginsWith_38 (by decide) ?_
        refine gm_goto (tgt := 43) dX9_beginsWith_39 (by decide) ?_
        exact gm_zret dX9_beginsWith_43 rfl
    · refine gm_lload_n dX9_beginsWith_19 rfl rfl ?_
      refine gm_ldc2 (v := 10) dX9_beginsWith_20 tb_536 ?_
      refine gm_ldiv dX9_beginsWith_23 (by decide) ?_
      refine gm_letl_st (fun u1 => ?_)
      refine gm_lstore_n (lv' := [none, none, some (.int (y2)), some (.long (u1)), none, some (.int (y5))]) dX9_beginsWith_24 rfl (by decide) rfl rfl ?_
      refine gm_iinc (v := 1) (lv' := [none, none, some (.int (y2)), some (.long (u1)), none, some (.int (y5 + 1))]) dX9_beginsWith_25 rfl (by decide) (by decide) rfl rfl ?_
      refine gm_goto (tgt := 5) dX9_beginsWith_28 (by decide) ?_
      exact gm_weak (lsub_n (lsub_n (lsub_s (lsub_s (lsub_n (lsub_s lsub_0)))))) (hrc5 w y2 u1 (y5 + 1))
noncomputable def h_X9_beginsWith_5 : Nat → (Wd → Int32 → Int64 → Int32 → Option (Int32 × Wd))
  | 0 => fun _ _ _ _ => none
  | fu + 1 => b_X9_beginsWith_5    (h_X9_beginsWith_5    fu)
set_option maxRecDepth 100000 in
set_option maxHeartbeats 4000000 in
theorem k_X9_beginsWith_5 {l : Launch} {E : En} : ∀ (fu : Nat) (w : Wd) (y2 : Int32) (y3 : Int64) (y5 : Int32), Gm l E cX9_beginsWith 6 RX9 (some .boolean) (rmk (1)) eI (h_X9_beginsWith_5    fu w y2 y3 y5) w 5 [none, none, some (.int (y2)), some (.long (y3)), none, some (.int (y5))] []
  | 0, _, _, _, _ => gm_none
  | fu + 1, w, y2, y3, y5 => kb_X9_beginsWith_5     (h_X9_beginsWith_5    fu)  (fun w y2 y3 y5 => k_X9_beginsWith_5      fu w y2 y3 y5) w y2 y3 y5
noncomputable def f_X9_beginsWith (w : Wd) (x0 : Int64) (x2 : Int32) : Option (Int32 × Wd) :=
  h_X9_beginsWith_5 FU w x2 x0 0
set_option maxRecDepth 100000 in
set_option maxHeartbeats 4000000 in
theorem t_X9_beginsWith {l : Launch} {E : En} (w : Wd) (x0 : Int64) (x2 : Int32) : ∀ q, f_X9_beginsWith   w x0 x2 = some q → Mt l E yX9_beginsWith cX9_beginsWith 6 (some .boolean) (rmk 1) [.long (x0), .int (x2)] w (eI q.1) q.2 := by
  refine Mt.of [some (.long (x0)), none, some (.int (x2)), none, none, none] (plainFor_of_name pn_X9) rfl (Nat.le_of_ble_eq_true rfl) rfl ?_
  unfold f_X9_beginsWith
  refine gm_lload_n dX9_beginsWith_0 rfl rfl ?_
  refine gm_lstore_n (lv' := [some (.long (x0)), none, some (.int (x2)), some (.long (x0)), none, none]) dX9_beginsWith_1 rfl (by decide) rfl rfl ?_
  refine gm_iconst (v := 0) dX9_beginsWith_2 (by decide) ?_
  refine gm_istore (lv' := [some (.long (x0)), none, some (.int (x2)), some (.long (x0)), none, some (.int (0))]) dX9_beginsWith_3 (by decide) rfl rfl ?_
  exact gm_weak (lsub_n (lsub_n (lsub_s (lsub_s (lsub_n (lsub_s lsub_0)))))) (k_X9_beginsWith_5 FU w x2 x0 0)

noncomputable def f_X9_bandOf (w : Wd) (x0 : Int32) : Option (Int32 × Wd) :=
  (f_J9_floorMod_7cf53 w x0 10080).bind fun q1 =>
  if q1.1 < 7200 then
    if (p_X9_inRange q1.2 (q1.1 - q1.1 / 1440 * 1440) 480 1199) = 0 then
      some (1, q1.2)
    else
      some (0, q1.2)
  else
    some (2, q1.2)
set_option maxRecDepth 100000 in
set_option maxHeartbeats 4000000 in
theorem t_X9_bandOf {l : Launch} {E : En} (w : Wd) (x0 : Int32) : ∀ q, f_X9_bandOf   w x0 = some q → Mt l E yX9_bandOf cX9_bandOf 2 (some .int) (rmk 2) [.int (x0)] w (eI q.1) q.2 := by
  refine Mt.of [some (.int (x0)), none] (plainFor_of_name pn_X9) rfl (Nat.le_of_ble_eq_true rfl) rfl ?_
  unfold f_X9_bandOf
  refine gm_iload_n dX9_bandOf_0 rfl rfl ?_
  refine gm_sipush (v := 10080) dX9_bandOf_1 (by decide) ?_
  refine gm_callSi (As := [.int (x0), .int (10080)]) dX9_bandOf_4 (t_J9_floorMod_7cf53 w x0 10080) cy_J9_floorMod_7cf53 tb_499 rfl rfl (rm_ok (by decide) (by decide)) (Nat.le_of_ble_eq_true rfl) (fun q1 => ?_)
  refine gm_istore_n (lv' := [some (.int (x0)), some (.int (q1.1))]) dX9_bandOf_7 rfl (by decide) rfl rfl ?_
  refine gm_iload_n dX9_bandOf_8 rfl rfl ?_
  refine gm_sipush (v := 7200) dX9_bandOf_9 (by decide) ?_
  refine gm_icmp_lt (tgt := 17) dX9_bandOf_12 (by decide) ?_ ?_
  · refine gm_iload_n dX9_bandOf_17 rfl rfl ?_
    refine gm_sipush (v := 1440) dX9_bandOf_18 (by decide) ?_
    refine gm_irem dX9_bandOf_21 (by decide) ?_
    refine gm_sipush (v := 480) dX9_bandOf_22 (by decide) ?_
    refine gm_sipush (v := 1199) dX9_bandOf_25 (by decide) ?_
    refine gm_callSk (As := [.int (q1.1 - q1.1 / 1440 * 1440), .int (480), .int (1199)]) dX9_bandOf_28 (tk_X9_inRange q1.2 (q1.1 - q1.1 / 1440 * 1440) 480 1199) cy_X9_inRange tb_383 rfl rfl (rm_ok (by decide) (by decide)) (Nat.le_of_ble_eq_true rfl) ?_
    refine gm_if_eq (tgt := 38) dX9_bandOf_31 (by decide) ?_ ?_
    · refine gm_iconst (v := 1) dX9_bandOf_38 (by decide) ?_
      exact gm_iret dX9_bandOf_39
    · refine gm_iconst (v := 0) dX9_bandOf_34 (by decide) ?_
      refine gm_goto (tgt := 39) dX9_bandOf_35 (by decide) ?_
      exact gm_iret dX9_bandOf_39
  · refine gm_iconst (v := 2) dX9_bandOf_15 (by decide) ?_
    exact gm_iret dX9_bandOf_16

noncomputable def f_X5_copyFrom (n : Nat) (n2 : Nat) (w : Wd) : Option (Unit × Wd) :=
  letw (wcp w n2 11 n 11 0 0 30) fun w1 =>
  letw (wcp w1 n2 12 n 12 0 0 30) fun w2 =>
  letw (wup w2 n 10 2 (w2 n2 10 2)) fun w3 =>
  some ((), w3)
set_option maxRecDepth 100000 in
set_option maxHeartbeats 4000000 in
theorem t_X5_copyFrom {l : Launch} {E : En} (n : Nat) (n2 : Nat) (hn : n < 7) (hn2 : n2 < 7) (w : Wd) : ∀ q, f_X5_copyFrom  n n2 w  = some q → Mt l E yX5_copyFrom cX5_copyFrom 2 none (rmk 2) [.ref (E.1 n 10), .ref (E.1 n2 10)] w (eV q.1) q.2 := by
  refine Mt.of [some (.ref (E.1 n 10)), some (.ref (E.1 n2 10))] (plainFor_of_name pn_X5) rfl (Nat.le_of_ble_eq_true rfl) rfl ?_
  unfold f_X5_copyFrom
  refine gm_aload_n dX5_copyFrom_0 rfl rfl ?_
  refine gm_get dX5_copyFrom_1 (ce_n_10 (n := n2) hn2) rfl inX5 0 (by decide) tb_120 rfl rfl ?_
  refine gm_iconst (v := 0) dX5_copyFrom_4 (by decide) ?_
  refine gm_aload_n dX5_copyFrom_5 rfl rfl ?_
  refine gm_get dX5_copyFrom_6 (ce_n_10 (n := n) hn) rfl inX5 0 (by decide) tb_120 rfl rfl ?_
  refine gm_iconst (v := 0) dX5_copyFrom_9 (by decide) ?_
  refine gm_bipush (v := 30) dX5_copyFrom_10 (by decide) ?_
  refine gm_copyi (sp1 := 0) (dp1 := 0) (n2 := 30) dX5_copyFrom_12 (ce_n_11 (n := n2) hn2) (ce_n_11 (n := n) hn) tb_352 tb_342 tb_341 tb_69 (by decide) (by decide) (by decide) (by decide) (by decide) (by decide) (by decide) (by decide) (by decide) (by decide) (fun w1 => ?_)
  refine gm_aload_n dX5_copyFrom_15 rfl rfl ?_
  refine gm_get dX5_copyFrom_16 (ce_n_10 (n := n2) hn2) rfl inX5 1 (by decide) tb_121 rfl rfl ?_
  refine gm_iconst (v := 0) dX5_copyFrom_19 (by decide) ?_
  refine gm_aload_n dX5_copyFrom_20 rfl rfl ?_
  refine gm_get dX5_copyFrom_21 (ce_n_10 (n := n) hn) rfl inX5 1 (by decide) tb_121 rfl rfl ?_
  refine gm_iconst (v := 0) dX5_copyFrom_24 (by decide) ?_
  refine gm_bipush (v := 30) dX5_copyFrom_25 (by decide) ?_
  refine gm_copyi (sp1 := 0) (dp1 := 0) (n2 := 30) dX5_copyFrom_27 (ce_n_12 (n := n2) hn2) (ce_n_12 (n := n) hn) tb_352 tb_342 tb_341 tb_69 (by decide) (by decide) (by decide) (by decide) (by decide) (by decide) (by decide) (by decide) (by decide) (by decide) (fun w2 => ?_)
  refine gm_aload_n dX5_copyFrom_30 rfl rfl ?_
  refine gm_aload_n dX5_copyFrom_31 rfl rfl ?_
  refine gm_get dX5_copyFrom_32 (ce_n_10 (n := n2) hn2) rfl inX5 2 (by decide) tb_122 rfl rfl ?_
  refine gm_put dX5_copyFrom_35 (ce_n_10 (n := n) hn) rfl inX5 tyX5 tyX5_ok nmX5 2 (by decide) tb_122 rfl rfl (by decide +kernel) (fun _ => rfl) (fun _ => rfl) (fun w3 => ?_)
  exact gm_vret dX5_copyFrom_38

noncomputable def f_X8_begin (w : Wd) (x1 : Int32) : Option (Int32 × Wd) :=
  if (w 7 12 2) < 30 then
    if ib (w 7 12 2) 30 = true then
    letw (wup w 7 13 (Int32.toNatClampNeg (w 7 12 2)) x1) fun w1 =>
    letw (wup w1 7 12 2 ((w1 7 12 2) + 1)) fun w2 =>
    some ((w2 7 12 2) - 1, w2)
    else none
  else
    some ((-9), w)
set_option maxRecDepth 100000 in
set_option maxHeartbeats 4000000 in
theorem t_X8_begin {l : Launch} {E : En} (w : Wd) (x1 : Int32) : ∀ q, f_X8_begin   w x1 = some q → Mt l E yX8_begin cX8_begin 2 (some .int) (rmk 1) [.ref (E.1 7 12), .int (x1)] w (eI q.1) q.2 := by
  refine Mt.of [some (.ref (E.1 7 12)), some (.int (x1))] (plainFor_of_name pn_X8) rfl (Nat.le_of_ble_eq_true rfl) rfl ?_
  unfold f_X8_begin
  refine gm_aload_n dX8_begin_0 rfl rfl ?_
  refine gm_get dX8_begin_1 ce_7_12 rfl inX8 2 (by decide) tb_251 rfl rfl ?_
  refine gm_bipush (v := 30) dX8_begin_4 (by decide) ?_
  refine gm_icmp_lt (tgt := 12) dX8_begin_6 (by decide) ?_ ?_
  · refine gm_aload_n dX8_begin_12 rfl rfl ?_
    refine gm_get dX8_begin_13 ce_7_12 rfl inX8 0 (by decide) tb_249 rfl rfl ?_
    refine gm_aload_n dX8_begin_16 rfl rfl ?_
    refine gm_get dX8_begin_17 ce_7_12 rfl inX8 2 (by decide) tb_251 rfl rfl ?_
    refine gm_iload_n dX8_begin_20 rfl rfl ?_
    refine gm_iast dX8_begin_21 ce_7_13 (fun w1 => ?_)
    refine gm_aload_n dX8_begin_22 rfl rfl ?_
    refine gm_dup dX8_begin_23 rfl ?_
    refine gm_get dX8_begin_24 ce_7_12 rfl inX8 2 (by decide) tb_251 rfl rfl ?_
    refine gm_iconst (v := 1) dX8_begin_27 (by decide) ?_
    refine gm_iadd dX8_begin_28 ?_
    refine gm_put dX8_begin_29 ce_7_12 rfl inX8 tyX8 tyX8_ok nmX8 2 (by decide) tb_251 rfl rfl (by decide +kernel) (fun _ => rfl) (fun _ => rfl) (fun w2 => ?_)
    refine gm_aload_n dX8_begin_32 rfl rfl ?_
    refine gm_get dX8_begin_33 ce_7_12 rfl inX8 2 (by decide) tb_251 rfl rfl ?_
    refine gm_iconst (v := 1) dX8_begin_36 (by decide) ?_
    refine gm_isub dX8_begin_37 ?_
    exact gm_iret dX8_begin_38
  · refine gm_bipush (v := (-9)) dX8_begin_9 (by decide) ?_
    exact gm_iret dX8_begin_11

noncomputable def f_X8_has (w : Wd) (x1 : Int32) : Option (Int32 × Wd) :=
  if x1 < 0 then
    some (0, w)
  else
    if (w 7 12 2) ≤ x1 then
      some (0, w)
    else
      if 30 ≤ x1 then
        some (0, w)
      else
        some (1, w)
set_option maxRecDepth 100000 in
set_option maxHeartbeats 4000000 in
theorem t_X8_has {l : Launch} {E : En} (w : Wd) (x1 : Int32) : ∀ q, f_X8_has   w x1 = some q → Mt l E yX8_has cX8_has 2 (some .boolean) (rmk 1) [.ref (E.1 7 12), .int (x1)] w (eI q.1) q.2 := by
  refine Mt.of [some (.ref (E.1 7 12)), some (.int (x1))] (plainFor_of_name pn_X8) rfl (Nat.le_of_ble_eq_true rfl) rfl ?_
  unfold f_X8_has
  refine gm_iload_n dX8_has_0 rfl rfl ?_
  refine gm_if_lt (tgt := 22) dX8_has_1 (by decide) ?_ ?_
  · refine gm_iconst (v := 0) dX8_has_22 (by decide) ?_
    exact gm_zret dX8_has_23 rfl
  · refine gm_iload_n dX8_has_4 rfl rfl ?_
    refine gm_aload_n dX8_has_5 rfl rfl ?_
    refine gm_get dX8_has_6 ce_7_12 rfl inX8 2 (by decide) tb_251 rfl rfl ?_
    refine gm_icmp_ge (tgt := 22) dX8_has_9 (by decide) ?_ ?_
    · refine gm_iconst (v := 0) dX8_has_22 (by decide) ?_
      exact gm_zret dX8_has_23 rfl
    · refine gm_iload_n dX8_has_12 rfl rfl ?_
      refine gm_bipush (v := 30) dX8_has_13 (by decide) ?_
      refine gm_icmp_ge (tgt := 22) dX8_has_15 (by decide) ?_ ?_
      · refine gm_iconst (v := 0) dX8_has_22 (by decide) ?_
        exact gm_zret dX8_has_23 rfl
      · refine gm_iconst (v := 1) dX8_has_18 (by decide) ?_
        refine gm_goto (tgt := 23) dX8_has_19 (by decide) ?_
        exact gm_zret dX8_has_23 rfl
noncomputable def p_X8_has (w : Wd) (x1 : Int32) : Int32 :=
  if x1 < 0 then
    0
  else
    if (w 7 12 2) ≤ x1 then
      0
    else
      if 30 ≤ x1 then
        0
      else
        1
theorem fp_X8_has (w : Wd) (x1 : Int32) : f_X8_has  w x1 = some (p_X8_has  w x1, w) := by
  unfold f_X8_has p_X8_has
  (try simp only [leti, letl])
  repeat' (first | rfl | split)
theorem tk_X8_has {l : Launch} {E : En} (w : Wd) (x1 : Int32) : Mt l E yX8_has cX8_has 2 (some .boolean) (rmk 1) [.ref (E.1 7 12), .int (x1)] w (some (.int (p_X8_has  w x1))) w := t_X8_has   w x1 _ (fp_X8_has  w x1)

noncomputable def f_X8_finish (w : Wd) (x1 : Int32) (x2 : Int32) : Option (Unit × Wd) :=
  if (p_X8_has w x1) = 0 then
    some ((), w)
  else
    if ib x1 30 = true then
    letw (wup w 7 14 (Int32.toNatClampNeg x1) x2) fun w1 =>
    some ((), w1)
    else none
set_option maxRecDepth 100000 in
set_option maxHeartbeats 4000000 in
theorem t_X8_finish {l : Launch} {E : En} (w : Wd) (x1 : Int32) (x2 : Int32) : ∀ q, f_X8_finish   w x1 x2 = some q → Mt l E yX8_finish cX8_finish 3 none (rmk 2) [.ref (E.1 7 12), .int (x1), .int (x2)] w (eV q.1) q.2 := by
  refine Mt.of [some (.ref (E.1 7 12)), some (.int (x1)), some (.int (x2))] (plainFor_of_name pn_X8) rfl (Nat.le_of_ble_eq_true rfl) rfl ?_
  unfold f_X8_finish
  refine gm_aload_n dX8_finish_0 rfl rfl ?_
  refine gm_iload_n dX8_finish_1 rfl rfl ?_
  refine gm_callVk (As := [.int (x1)]) dX8_finish_2 (tk_X8_has w x1) ce_7_12 rfl cy_X8_has tb_589 rfl rfl (rm_ok (by decide) (by decide)) (Nat.le_of_ble_eq_true rfl) ?_
  refine gm_if_eq (tgt := 15) dX8_finish_5 (by decide) ?_ ?_
  · exact gm_vret dX8_finish_15
  · refine gm_aload_n dX8_finish_8 rfl rfl ?_
    refine gm_get dX8_finish_9 ce_7_12 rfl inX8 1 (by decide) tb_250 rfl rfl ?_
    refine gm_iload_n dX8_finish_12 rfl rfl ?_
    refine gm_iload_n dX8_finish_13 rfl rfl ?_
    refine gm_iast dX8_finish_14 ce_7_14 (fun w1 => ?_)
    exact gm_vret dX8_finish_15

noncomputable def f_X8_empty (w : Wd) : Option (Unit × Wd) :=
  letw (wup w 7 12 2 0) fun w1 =>
  some ((), w1)
set_option maxRecDepth 100000 in
set_option maxHeartbeats 4000000 in
theorem t_X8_empty {l : Launch} {E : En} (w : Wd) : ∀ q, f_X8_empty   w  = some q → Mt l E yX8_empty cX8_empty 1 none (rmk 1) [.ref (E.1 7 12)] w (eV q.1) q.2 := by
  refine Mt.of [some (.ref (E.1 7 12))] (plainFor_of_name pn_X8) rfl (Nat.le_of_ble_eq_true rfl) rfl ?_
  unfold f_X8_empty
  refine gm_aload_n dX8_empty_0 rfl rfl ?_
  refine gm_iconst (v := 0) dX8_empty_1 (by decide) ?_
  refine gm_put dX8_empty_2 ce_7_12 rfl inX8 tyX8 tyX8_ok nmX8 2 (by decide) tb_251 rfl rfl (by decide +kernel) (fun _ => rfl) (fun _ => rfl) (fun w1 => ?_)
  exact gm_vret dX8_empty_5

noncomputable def f_X9_isNumber (w : Wd) (x0 : Int32) : Option (Int32 × Wd) :=
  if zb (p_X9_inRange w x0 1 999999999) = true then
  some (p_X9_inRange w x0 1 999999999, w)
  else none
set_option maxRecDepth 100000 in
set_option maxHeartbeats 4000000 in
theorem t_X9_isNumber {l : Launch} {E : En} (w : Wd) (x0 : Int32) : ∀ q, f_X9_isNumber   w x0 = some q → Mt l E yX9_isNumber cX9_isNumber 1 (some .boolean) (rmk 2) [.int (x0)] w (eI q.1) q.2 := by
  refine Mt.of [some (.int (x0))] (plainFor_of_name pn_X9) rfl (Nat.le_of_ble_eq_true rfl) rfl ?_
  unfold f_X9_isNumber
  refine gm_iload_n dX9_isNumber_0 rfl rfl ?_
  refine gm_iconst (v := 1) dX9_isNumber_1 (by decide) ?_
  refine gm_ldc (v := 999999999) dX9_isNumber_2 tb_445 ?_
  refine gm_callSk (As := [.int (x0), .int (1), .int (999999999)]) dX9_isNumber_4 (tk_X9_inRange w x0 1 999999999) cy_X9_inRange tb_383 rfl rfl (rm_ok (by decide) (by decide)) (Nat.le_of_ble_eq_true rfl) ?_
  exact gm_zret_g dX9_isNumber_7

noncomputable def f_X5_size (n : Nat) (w : Wd) : Option (Int32 × Wd) :=
  some (w n 10 2, w)
set_option maxRecDepth 100000 in
set_option maxHeartbeats 4000000 in
theorem t_X5_size {l : Launch} {E : En} (n : Nat) (hn : n < 7) (w : Wd) : ∀ q, f_X5_size  n w  = some q → Mt l E yX5_size cX5_size 1 (some .int) (rmk 1) [.ref (E.1 n 10)] w (eI q.1) q.2 := by
  refine Mt.of [some (.ref (E.1 n 10))] (plainFor_of_name pn_X5) rfl (Nat.le_of_ble_eq_true rfl) rfl ?_
  unfold f_X5_size
  refine gm_aload_n dX5_size_0 rfl rfl ?_
  refine gm_get dX5_size_1 (ce_n_10 (n := n) hn) rfl inX5 2 (by decide) tb_122 rfl rfl ?_
  exact gm_iret dX5_size_4
noncomputable def p_X5_size (n : Nat) (w : Wd) : Int32 :=
  w n 10 2
theorem fp_X5_size (n : Nat) (w : Wd) : f_X5_size n w  = some (p_X5_size n w , w) := by
  unfold f_X5_size p_X5_size
  (try simp only [leti, letl])
  repeat' (first | rfl | split)
theorem tk_X5_size {l : Launch} {E : En} (n : Nat) (hn : n < 7) (w : Wd) : Mt l E yX5_size cX5_size 1 (some .int) (rmk 1) [.ref (E.1 n 10)] w (some (.int (p_X5_size n w ))) w := t_X5_size n hn w  _ (fp_X5_size n w )

noncomputable def f_X5_put (n : Nat) (w : Wd) (x1 : Int32) (x2 : Int32) : Option (Int32 × Wd) :=
  (f_X5_indexOf n w x1).bind fun q1 =>
  if q1.1 < 0 then
    if 30 ≤ ((q1.2) n 10 2) then
      some ((-9), q1.2)
    else
      if ib ((q1.2) n 10 2) 30 = true then
      letw (wup q1.2 n 11 (Int32.toNatClampNeg ((q1.2) n 10 2)) x1) fun w2 =>
      if ib (w2 n 10 2) 30 = true then
      letw (wup w2 n 12 (Int32.toNatClampNeg (w2 n 10 2)) x2) fun w3 =>
      letw (wup w3 n 10 2 ((w3 n 10 2) + 1)) fun w4 =>
      some ((-9), w4)
      else none
      else none
  else
    if ib q1.1 30 = true then
    leti (q1.2 n 12 (Int32.toNatClampNeg q1.1)) fun u5 =>
    if ib q1.1 30 = true then
    letw (wup q1.2 n 12 (Int32.toNatClampNeg q1.1) x2) fun w6 =>
    some (u5, w6)
    else none
    else none
set_option maxRecDepth 100000 in
set_option maxHeartbeats 4000000 in
theorem t_X5_put {l : Launch} {E : En} (n : Nat) (hn : n < 7) (w : Wd) (x1 : Int32) (x2 : Int32) : ∀ q, f_X5_put  n w x1 x2 = some q → Mt l E yX5_put cX5_put 5 (some .int) (rmk 2) [.ref (E.1 n 10), .int (x1), .int (x2)] w (eI q.1) q.2 := by
  refine Mt.of [some (.ref (E.1 n 10)), some (.int (x1)), some (.int (x2)), none, none] (plainFor_of_name pn_X5) rfl (Nat.le_of_ble_eq_true rfl) rfl ?_
  unfold f_X5_put
  refine gm_aload_n dX5_put_0 rfl rfl ?_
  refine gm_iload_n dX5_put_1 rfl rfl ?_
  refine gm_callVi (As := [.int (x1)]) dX5_put_2 (t_X5_indexOf n hn w x1) (ce_n_10 (n := n) hn) rfl cy_X5_indexOf tb_450 rfl rfl (rm_ok (by decide) (by decide)) (Nat.le_of_ble_eq_true rfl) (fun q1 => ?_)
  refine gm_istore_n (lv' := [some (.ref (E.1 n 10)), some (.int (x1)), some (.int (x2)), some (.int (q1.1)), none]) dX5_put_5 rfl (by decide) rfl rfl ?_
  refine gm_iload_n dX5_put_6 rfl rfl ?_
  refine gm_if_lt (tgt := 28) dX5_put_7 (by decide) ?_ ?_
  · refine gm_aload_n dX5_put_28 rfl rfl ?_
    refine gm_get dX5_put_29 (ce_n_10 (n := n) hn) rfl inX5 2 (by decide) tb_122 rfl rfl ?_
    refine gm_bipush (v := 30) dX5_put_32 (by decide) ?_
    refine gm_icmp_ge (tgt := 67) dX5_put_34 (by decide) ?_ ?_
    · refine gm_bipush (v := (-9)) dX5_put_67 (by decide) ?_
      exact gm_iret dX5_put_69
    · refine gm_aload_n dX5_put_37 rfl rfl ?_
      refine gm_get dX5_put_38 (ce_n_10 (n := n) hn) rfl inX5 0 (by decide) tb_120 rfl rfl ?_
      refine gm_aload_n dX5_put_41 rfl rfl ?_
      refine gm_get dX5_put_42 (ce_n_10 (n := n) hn) rfl inX5 2 (by decide) tb_122 rfl rfl ?_
      refine gm_iload_n dX5_put_45 rfl rfl ?_
      refine gm_iast dX5_put_46 (ce_n_11 (n := n) hn) (fun w2 => ?_)
      refine gm_aload_n dX5_put_47 rfl rfl ?_
      refine gm_get dX5_put_48 (ce_n_10 (n := n) hn) rfl inX5 1 (by decide) tb_121 rfl rfl ?_
      refine gm_aload_n dX5_put_51 rfl rfl ?_
      refine gm_get dX5_put_52 (ce_n_10 (n := n) hn) rfl inX5 2 (by decide) tb_122 rfl rfl ?_
      refine gm_iload_n dX5_put_55 rfl rfl ?_
      refine gm_iast dX5_put_56 (ce_n_12 (n := n) hn) (fun w3 => ?_)
      refine gm_aload_n dX5_put_57 rfl rfl ?_
      refine gm_dup dX5_put_58 rfl ?_
      refine gm_get dX5_put_59 (ce_n_10 (n := n) hn) rfl inX5 2 (by decide) tb_122 rfl rfl ?_
      refine gm_iconst (v := 1) dX5_put_62 (by decide) ?_
      refine gm_iadd dX5_put_63 ?_
      refine gm_put dX5_put_64 (ce_n_10 (n := n) hn) rfl inX5 tyX5 tyX5_ok nmX5 2 (by decide) tb_122 rfl rfl (by decide +kernel) (fun _ => rfl) (fun _ => rfl) (fun w4 => ?_)
      refine gm_bipush (v := (-9)) dX5_put_67 (by decide) ?_
      exact gm_iret dX5_put_69
  · refine gm_aload_n dX5_put_10 rfl rfl ?_
    refine gm_get dX5_put_11 (ce_n_10 (n := n) hn) rfl inX5 1 (by decide) tb_121 rfl rfl ?_
    refine gm_iload_n dX5_put_14 rfl rfl ?_
    refine gm_iald dX5_put_15 (ce_n_12 (n := n) hn) ?_
    refine gm_leti_st (fun u5 => ?_)
    refine gm_istore (lv' := [some (.ref (E.1 n 10)), some (.int (x1)), some (.int (x2)), some (.int (q1.1)), some (.int (u5))]) dX5_put_16 (by decide) rfl rfl ?_
    refine gm_aload_n dX5_put_18 rfl rfl ?_
    refine gm_get dX5_put_19 (ce_n_10 (n := n) hn) rfl inX5 1 (by decide) tb_121 rfl rfl ?_
    refine gm_iload_n dX5_put_22 rfl rfl ?_
    refine gm_iload_n dX5_put_23 rfl rfl ?_
    refine gm_iast dX5_put_24 (ce_n_12 (n := n) hn) (fun w6 => ?_)
    refine gm_iload dX5_put_25 rfl ?_
    exact gm_iret dX5_put_27

noncomputable def f_X5_remove (n : Nat) (w : Wd) (x1 : Int32) : Option (Int32 × Wd) :=
  (f_X5_indexOf n w x1).bind fun q1 =>
  if 0 ≤ q1.1 then
    if ib q1.1 30 = true then
    leti (q1.2 n 12 (Int32.toNatClampNeg q1.1)) fun u2 =>
    letw (wup q1.2 n 10 2 (((q1.2) n 10 2) - 1)) fun w3 =>
    if ib (w3 n 10 2) 30 = true then
    if ib q1.1 30 = true then
    letw (wup w3 n 11 (Int32.toNatClampNeg q1.1) (w3 n 11 (Int32.toNatClampNeg (w3 n 10 2)))) fun w4 =>
    if ib (w4 n 10 2) 30 = true then
    if ib q1.1 30 = true then
    letw (wup w4 n 12 (Int32.toNatClampNeg q1.1) (w4 n 12 (Int32.toNatClampNeg (w4 n 10 2)))) fun w5 =>
    some (u2, w5)
    else none
    else none
    else none
    else none
    else none
  else
    some ((-9), q1.2)
set_option maxRecDepth 100000 in
set_option maxHeartbeats 4000000 in
theorem t_X5_remove {l : Launch} {E : En} (n : Nat) (hn : n < 7) (w : Wd) (x1 : Int32) : ∀ q, f_X5_remove  n w x1 = some q → Mt l E yX5_remove cX5_remove 4 (some .int) (rmk 2) [.ref (E.1 n 10), .int (x1)] w (eI q.1) q.2 := by
  refine Mt.of [some (.ref (E.1 n 10)), some (.int (x1)), none, none] (plainFor_of_name pn_X5) rfl (Nat.le_of_ble_eq_true rfl) rfl ?_
  unfold f_X5_remove
  refine gm_aload_n dX5_remove_0 rfl rfl ?_
  refine gm_iload_n dX5_remove_1 rfl rfl ?_
  refine gm_callVi (As := [.int (x1)]) dX5_remove_2 (t_X5_indexOf n hn w x1) (ce_n_10 (n := n) hn) rfl cy_X5_indexOf tb_450 rfl rfl (rm_ok (by decide) (by decide)) (Nat.le_of_ble_eq_true rfl) (fun q1 => ?_)
  refine gm_istore_n (lv' := [some (.ref (E.1 n 10)), some (.int (x1)), some (.int (q1.1)), none]) dX5_remove_5 rfl (by decide) rfl rfl ?_
  refine gm_iload_n dX5_remove_6 rfl rfl ?_
  refine gm_if_ge (tgt := 13) dX5_remove_7 (by decide) ?_ ?_
  · refine gm_aload_n dX5_remove_13 rfl rfl ?_
    refine gm_get dX5_remove_14 (ce_n_10 (n := n) hn) rfl inX5 1 (by decide) tb_121 rfl rfl ?_
    refine gm_iload_n dX5_remove_17 rfl rfl ?_
    refine gm_iald dX5_remove_18 (ce_n_12 (n := n) hn) ?_
    refine gm_leti_st (fun u2 => ?_)
    refine gm_istore_n (lv' := [some (.ref (E.1 n 10)), some (.int (x1)), some (.int (q1.1)), some (.int (u2))]) dX5_remove_19 rfl (by decide) rfl rfl ?_
    refine gm_aload_n dX5_remove_20 rfl rfl ?_
    refine gm_dup dX5_remove_21 rfl ?_
    refine gm_get dX5_remove_22 (ce_n_10 (n := n) hn) rfl inX5 2 (by decide) tb_122 rfl rfl ?_
    refine gm_iconst (v := 1) dX5_remove_25 (by decide) ?_
    refine gm_isub dX5_remove_26 ?_
    refine gm_put dX5_remove_27 (ce_n_10 (n := n) hn) rfl inX5 tyX5 tyX5_ok nmX5 2 (by decide) tb_122 rfl rfl (by decide +kernel) (fun _ => rfl) (fun _ => rfl) (fun w3 => ?_)
    refine gm_aload_n dX5_remove_30 rfl rfl ?_
    refine gm_get dX5_remove_31 (ce_n_10 (n := n) hn) rfl inX5 0 (by decide) tb_120 rfl rfl ?_
    refine gm_iload_n dX5_remove_34 rfl rfl ?_
    refine gm_aload_n dX5_remove_35 rfl rfl ?_
    refine gm_get dX5_remove_36 (ce_n_10 (n := n) hn) rfl inX5 0 (by decide) tb_120 rfl rfl ?_
    refine gm_aload_n dX5_remove_39 rfl rfl ?_
    refine gm_get dX5_remove_40 (ce_n_10 (n := n) hn) rfl inX5 2 (by decide) tb_122 rfl rfl ?_
    refine gm_iald dX5_remove_43 (ce_n_11 (n := n) hn) ?_
    refine gm_iast dX5_remove_44 (ce_n_11 (n := n) hn) (fun w4 => ?_)
    refine gm_aload_n dX5_remove_45 rfl rfl ?_
    refine gm_get dX5_remove_46 (ce_n_10 (n := n) hn) rfl inX5 1 (by decide) tb_121 rfl rfl ?_
    refine gm_iload_n dX5_remove_49 rfl rfl ?_
    refine gm_aload_n dX5_remove_50 rfl rfl ?_
    refine gm_get dX5_remove_51 (ce_n_10 (n := n) hn) rfl inX5 1 (by decide) tb_121 rfl rfl ?_
    refine gm_aload_n dX5_remove_54 rfl rfl ?_
    refine gm_get dX5_remove_55 (ce_n_10 (n := n) hn) rfl inX5 2 (by decide) tb_122 rfl rfl ?_
    refine gm_iald dX5_remove_58 (ce_n_12 (n := n) hn) ?_
    refine gm_iast dX5_remove_59 (ce_n_12 (n := n) hn) (fun w5 => ?_)
    refine gm_iload_n dX5_remove_60 rfl rfl ?_
    exact gm_iret dX5_remove_61
  · refine gm_bipush (v := (-9)) dX5_remove_10 (by decide) ?_
    exact gm_iret dX5_remove_12

noncomputable def f_X8_codeAt (w : Wd) (x1 : Int32) : Option (Int32 × Wd) :=
  if (p_X8_has w x1) = 0 then
    some ((-9), w)
  else
    if ib x1 30 = true then
    some (w 7 14 (Int32.toNatClampNeg x1), w)
    else none
set_option maxRecDepth 100000 in
set_option maxHeartbeats 4000000 in
theorem t_X8_codeAt {l : Launch} {E : En} (w : Wd) (x1 : Int32) : ∀ q, f_X8_codeAt   w x1 = some q → Mt l E yX8_codeAt cX8_codeAt 2 (some .int) (rmk 2) [.ref (E.1 7 12), .int (x1)] w (eI q.1) q.2 := by
  refine Mt.of [some (.ref (E.1 7 12)), some (.int (x1))] (plainFor_of_name pn_X8) rfl (Nat.le_of_ble_eq_true rfl) rfl ?_
  unfold f_X8_codeAt
  refine gm_aload_n dX8_codeAt_0 rfl rfl ?_
  refine gm_iload_n dX8_codeAt_1 rfl rfl ?_
  refine gm_callVk (As := [.int (x1)]) dX8_codeAt_2 (tk_X8_has w x1) ce_7_12 rfl cy_X8_has tb_589 rfl rfl (rm_ok (by decide) (by decide)) (Nat.le_of_ble_eq_true rfl) ?_
  refine gm_if_eq (tgt := 17) dX8_codeAt_5 (by decide) ?_ ?_
  · refine gm_bipush (v := (-9)) dX8_codeAt_17 (by decide) ?_
    exact gm_iret dX8_codeAt_19
  · refine gm_aload_n dX8_codeAt_8 rfl rfl ?_
    refine gm_get dX8_codeAt_9 ce_7_12 rfl inX8 1 (by decide) tb_250 rfl rfl ?_
    refine gm_iload_n dX8_codeAt_12 rfl rfl ?_
    refine gm_iald dX8_codeAt_13 ce_7_14 ?_
    refine gm_goto (tgt := 19) dX8_codeAt_14 (by decide) ?_
    exact gm_iret dX8_codeAt_19

noncomputable def f_X8_routeAt (w : Wd) (x1 : Int32) : Option (Int32 × Wd) :=
  if (p_X8_has w x1) = 0 then
    some ((-9), w)
  else
    if ib x1 30 = true then
    some (w 7 13 (Int32.toNatClampNeg x1), w)
    else none
set_option maxRecDepth 100000 in
set_option maxHeartbeats 4000000 in
theorem t_X8_routeAt {l : Launch} {E : En} (w : Wd) (x1 : Int32) : ∀ q, f_X8_routeAt   w x1 = some q → Mt l E yX8_routeAt cX8_routeAt 2 (some .int) (rmk 2) [.ref (E.1 7 12), .int (x1)] w (eI q.1) q.2 := by
  refine Mt.of [some (.ref (E.1 7 12)), some (.int (x1))] (plainFor_of_name pn_X8) rfl (Nat.le_of_ble_eq_true rfl) rfl ?_
  unfold f_X8_routeAt
  refine gm_aload_n dX8_routeAt_0 rfl rfl ?_
  refine gm_iload_n dX8_routeAt_1 rfl rfl ?_
  refine gm_callVk (As := [.int (x1)]) dX8_routeAt_2 (tk_X8_has w x1) ce_7_12 rfl cy_X8_has tb_589 rfl rfl (rm_ok (by decide) (by decide)) (Nat.le_of_ble_eq_true rfl) ?_
  refine gm_if_eq (tgt := 17) dX8_routeAt_5 (by decide) ?_ ?_
  · refine gm_bipush (v := (-9)) dX8_routeAt_17 (by decide) ?_
    exact gm_iret dX8_routeAt_19
  · refine gm_aload_n dX8_routeAt_8 rfl rfl ?_
    refine gm_get dX8_routeAt_9 ce_7_12 rfl inX8 0 (by decide) tb_249 rfl rfl ?_
    refine gm_iload_n dX8_routeAt_12 rfl rfl ?_
    refine gm_iald dX8_routeAt_13 ce_7_13 ?_
    refine gm_goto (tgt := 19) dX8_routeAt_14 (by decide) ?_
    exact gm_iret dX8_routeAt_19

noncomputable def f_X8_size (w : Wd) : Option (Int32 × Wd) :=
  some (w 7 12 2, w)
set_option maxRecDepth 100000 in
set_option maxHeartbeats 4000000 in
theorem t_X8_size {l : Launch} {E : En} (w : Wd) : ∀ q, f_X8_size   w  = some q → Mt l E yX8_size cX8_size 1 (some .int) (rmk 1) [.ref (E.1 7 12)] w (eI q.1) q.2 := by
  refine Mt.of [some (.ref (E.1 7 12))] (plainFor_of_name pn_X8) rfl (Nat.le_of_ble_eq_true rfl) rfl ?_
  unfold f_X8_size
  refine gm_aload_n dX8_size_0 rfl rfl ?_
  refine gm_get dX8_size_1 ce_7_12 rfl inX8 2 (by decide) tb_251 rfl rfl ?_
  exact gm_iret dX8_size_4
noncomputable def p_X8_size (w : Wd) : Int32 :=
  w 7 12 2
theorem fp_X8_size (w : Wd) : f_X8_size  w  = some (p_X8_size  w , w) := by
  unfold f_X8_size p_X8_size
  (try simp only [leti, letl])
  repeat' (first | rfl | split)
theorem tk_X8_size {l : Launch} {E : En} (w : Wd) : Mt l E yX8_size cX8_size 1 (some .int) (rmk 1) [.ref (E.1 7 12)] w (some (.int (p_X8_size  w ))) w := t_X8_size   w  _ (fp_X8_size  w )
