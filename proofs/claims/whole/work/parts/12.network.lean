noncomputable def f_X4_hopLimit (n : Nat) (w : Wd) : Option (Int32 × Wd) :=
  some (w n 0 7, w)
set_option maxRecDepth 100000 in
set_option maxHeartbeats 4000000 in
theorem t_X4_hopLimit {l : Launch} {E : En} (n : Nat) (hn : n < 7) (w : Wd) : ∀ q, f_X4_hopLimit  n w  = some q → Mt l E yX4_hopLimit cX4_hopLimit 1 (some .int) (rmk 1) [.ref (E.1 n 0)] w (eI q.1) q.2 := by
  refine Mt.of [some (.ref (E.1 n 0))] (plainFor_of_name pn_X4) rfl (Nat.le_of_ble_eq_true rfl) rfl ?_
  unfold f_X4_hopLimit
  refine gm_aload_n dX4_hopLimit_0 rfl rfl ?_
  refine gm_get dX4_hopLimit_1 (ce_n_0 (n := n) hn) rfl inX4 7 (by decide) tb_159 rfl rfl ?_
  exact gm_iret dX4_hopLimit_4
noncomputable def p_X4_hopLimit (n : Nat) (w : Wd) : Int32 :=
  w n 0 7
theorem fp_X4_hopLimit (n : Nat) (w : Wd) : f_X4_hopLimit n w  = some (p_X4_hopLimit n w , w) := by
  unfold f_X4_hopLimit p_X4_hopLimit
  (try simp only [leti, letl])
  repeat' (first | rfl | split)
theorem tk_X4_hopLimit {l : Launch} {E : En} (n : Nat) (hn : n < 7) (w : Wd) : Mt l E yX4_hopLimit cX4_hopLimit 1 (some .int) (rmk 1) [.ref (E.1 n 0)] w (some (.int (p_X4_hopLimit n w ))) w := t_X4_hopLimit n hn w  _ (fp_X4_hopLimit n w )

noncomputable def f_X4_hasSwitch (n : Nat) (w : Wd) (x1 : Int32) : Option (Int32 × Wd) :=
  if x1 < 0 then
    some (0, w)
  else
    if (w n 0 5) ≤ x1 then
      some (0, w)
    else
      if 8 ≤ x1 then
        some (0, w)
      else
        some (1, w)
set_option maxRecDepth 100000 in
set_option maxHeartbeats 4000000 in
theorem t_X4_hasSwitch {l : Launch} {E : En} (n : Nat) (hn : n < 7) (w : Wd) (x1 : Int32) : ∀ q, f_X4_hasSwitch  n w x1 = some q → Mt l E yX4_hasSwitch cX4_hasSwitch 2 (some .boolean) (rmk 1) [.ref (E.1 n 0), .int (x1)] w (eI q.1) q.2 := by
  refine Mt.of [some (.ref (E.1 n 0)), some (.int (x1))] (plainFor_of_name pn_X4) rfl (Nat.le_of_ble_eq_true rfl) rfl ?_
  unfold f_X4_hasSwitch
  refine gm_iload_n dX4_hasSwitch_0 rfl rfl ?_
  refine gm_if_lt (tgt := 22) dX4_hasSwitch_1 (by decide) ?_ ?_
  · refine gm_iconst (v := 0) dX4_hasSwitch_22 (by decide) ?_
    exact gm_zret dX4_hasSwitch_23 rfl
  · refine gm_iload_n dX4_hasSwitch_4 rfl rfl ?_
    refine gm_aload_n dX4_hasSwitch_5 rfl rfl ?_
    refine gm_get dX4_hasSwitch_6 (ce_n_0 (n := n) hn) rfl inX4 5 (by decide) tb_157 rfl rfl ?_
    refine gm_icmp_ge (tgt := 22) dX4_hasSwitch_9 (by decide) ?_ ?_
    · refine gm_iconst (v := 0) dX4_hasSwitch_22 (by decide) ?_
      exact gm_zret dX4_hasSwitch_23 rfl
    · refine gm_iload_n dX4_hasSwitch_12 rfl rfl ?_
      refine gm_bipush (v := 8) dX4_hasSwitch_13 (by decide) ?_
      refine gm_icmp_ge (tgt := 22) dX4_hasSwitch_15 (by decide) ?_ ?_
      · refine gm_iconst (v := 0) dX4_hasSwitch_22 (by decide) ?_
        exact gm_zret dX4_hasSwitch_23 rfl
      · refine gm_iconst (v := 1) dX4_hasSwitch_18 (by decide) ?_
        refine gm_goto (tgt := 23) dX4_hasSwitch_19 (by decide) ?_
        exact gm_zret dX4_hasSwitch_23 rfl
noncomputable def p_X4_hasSwitch (n : Nat) (w : Wd) (x1 : Int32) : Int32 :=
  if x1 < 0 then
    0
  else
    if (w n 0 5) ≤ x1 then
      0
    else
      if 8 ≤ x1 then
        0
      else
        1
theorem fp_X4_hasSwitch (n : Nat) (w : Wd) (x1 : Int32) : f_X4_hasSwitch n w x1 = some (p_X4_hasSwitch n w x1, w) := by
  unfold f_X4_hasSwitch p_X4_hasSwitch
  (try simp only [leti, letl])
  repeat' (first | rfl | split)
theorem tk_X4_hasSwitch {l : Launch} {E : En} (n : Nat) (hn : n < 7) (w : Wd) (x1 : Int32) : Mt l E yX4_hasSwitch cX4_hasSwitch 2 (some .boolean) (rmk 1) [.ref (E.1 n 0), .int (x1)] w (some (.int (p_X4_hasSwitch n w x1))) w := t_X4_hasSwitch n hn w x1 _ (fp_X4_hasSwitch n w x1)

noncomputable def f_X4_looksUp (n : Nat) (w : Wd) (x1 : Int32) : Option (Int32 × Wd) :=
  if (p_X4_hasSwitch n w x1) = 0 then
    some (0, w)
  else
    if (((w n 0 6) >>> (x1 &&& 31)) &&& 1) = 0 then
      some (0, w)
    else
      some (1, w)
set_option maxRecDepth 100000 in
set_option maxHeartbeats 4000000 in
theorem t_X4_looksUp {l : Launch} {E : En} (n : Nat) (hn : n < 7) (w : Wd) (x1 : Int32) : ∀ q, f_X4_looksUp  n w x1 = some q → Mt l E yX4_looksUp cX4_looksUp 2 (some .boolean) (rmk 2) [.ref (E.1 n 0), .int (x1)] w (eI q.1) q.2 := by
  refine Mt.of [some (.ref (E.1 n 0)), some (.int (x1))] (plainFor_of_name pn_X4) rfl (Nat.le_of_ble_eq_true rfl) rfl ?_
  unfold f_X4_looksUp
  refine gm_aload_n dX4_looksUp_0 rfl rfl ?_
  refine gm_iload_n dX4_looksUp_1 rfl rfl ?_
  refine gm_callVk (As := [.int (x1)]) dX4_looksUp_2 (tk_X4_hasSwitch n hn w x1) (ce_n_0 (n := n) hn) rfl cy_X4_hasSwitch tb_374 rfl rfl (rm_ok (by decide) (by decide)) (Nat.le_of_ble_eq_true rfl) ?_
  refine gm_if_eq (tgt := 23) dX4_looksUp_5 (by decide) ?_ ?_
  · refine gm_iconst (v := 0) dX4_looksUp_23 (by decide) ?_
    exact gm_zret dX4_looksUp_24 rfl
  · refine gm_aload_n dX4_looksUp_8 rfl rfl ?_
    refine gm_get dX4_looksUp_9 (ce_n_0 (n := n) hn) rfl inX4 6 (by decide) tb_158 rfl rfl ?_
    refine gm_iload_n dX4_looksUp_12 rfl rfl ?_
    refine gm_ishr dX4_looksUp_13 ?_
    refine gm_iconst (v := 1) dX4_looksUp_14 (by decide) ?_
    refine gm_iand dX4_looksUp_15 ?_
    refine gm_if_eq (tgt := 23) dX4_looksUp_16 (by decide) ?_ ?_
    · refine gm_iconst (v := 0) dX4_looksUp_23 (by decide) ?_
      exact gm_zret dX4_looksUp_24 rfl
    · refine gm_iconst (v := 1) dX4_looksUp_19 (by decide) ?_
      refine gm_goto (tgt := 24) dX4_looksUp_20 (by decide) ?_
      exact gm_zret dX4_looksUp_24 rfl
noncomputable def p_X4_looksUp (n : Nat) (w : Wd) (x1 : Int32) : Int32 :=
  if (p_X4_hasSwitch n w x1) = 0 then
    0
  else
    if (((w n 0 6) >>> (x1 &&& 31)) &&& 1) = 0 then
      0
    else
      1
theorem fp_X4_looksUp (n : Nat) (w : Wd) (x1 : Int32) : f_X4_looksUp n w x1 = some (p_X4_looksUp n w x1, w) := by
  unfold f_X4_looksUp p_X4_looksUp
  (try simp only [leti, letl])
  repeat' (first | rfl | split)
theorem tk_X4_looksUp {l : Launch} {E : En} (n : Nat) (hn : n < 7) (w : Wd) (x1 : Int32) : Mt l E yX4_looksUp cX4_looksUp 2 (some .boolean) (rmk 2) [.ref (E.1 n 0), .int (x1)] w (some (.int (p_X4_looksUp n w x1))) w := t_X4_looksUp n hn w x1 _ (fp_X4_looksUp n w x1)

noncomputable def f_X4_markAt (n : Nat) (w : Wd) (x1 : Int32) (x2 : Int32) (x3 : Int32) : Option (Int32 × Wd) :=
  if x3 = (-9) then
    if (p_X4_looksUp n w x1) = 0 then
      some (x3, w)
    else
      (f_X5_switchOf n w x2).bind fun q1 =>
      some (q1.1, q1.2)
  else
    some (x3, w)
set_option maxRecDepth 100000 in
set_option maxHeartbeats 4000000 in
theorem t_X4_markAt {l : Launch} {E : En} (n : Nat) (hn : n < 7) (w : Wd) (x1 : Int32) (x2 : Int32) (x3 : Int32) : ∀ q, f_X4_markAt  n w x1 x2 x3 = some q → Mt l E yX4_markAt cX4_markAt 4 (some .int) (rmk 3) [.ref (E.1 n 0), .int (x1), .int (x2), .int (x3)] w (eI q.1) q.2 := by
  refine Mt.of [some (.ref (E.1 n 0)), some (.int (x1)), some (.int (x2)), some (.int (x3))] (plainFor_of_name pn_X4) rfl (Nat.le_of_ble_eq_true rfl) rfl ?_
  unfold f_X4_markAt
  refine gm_iload_n dX4_markAt_0 rfl rfl ?_
  refine gm_bipush (v := (-9)) dX4_markAt_1 (by decide) ?_
  refine gm_icmp_ne (tgt := 25) dX4_markAt_3 (by decide) ?_ ?_
  · refine gm_iload_n dX4_markAt_25 rfl rfl ?_
    exact gm_iret dX4_markAt_26
  · refine gm_aload_n dX4_markAt_6 rfl rfl ?_
    refine gm_iload_n dX4_markAt_7 rfl rfl ?_
    refine gm_callVk (As := [.int (x1)]) dX4_markAt_8 (tk_X4_looksUp n hn w x1) (ce_n_0 (n := n) hn) rfl cy_X4_looksUp tb_527 rfl rfl (rm_ok (by decide) (by decide)) (Nat.le_of_ble_eq_true rfl) ?_
    refine gm_if_eq (tgt := 25) dX4_markAt_11 (by decide) ?_ ?_
    · refine gm_iload_n dX4_markAt_25 rfl rfl ?_
      exact gm_iret dX4_markAt_26
    · refine gm_aload_n dX4_markAt_14 rfl rfl ?_
      refine gm_get dX4_markAt_15 (ce_n_0 (n := n) hn) rfl inX4 3 (by decide) tb_155 rfl rfl ?_
      refine gm_iload_n dX4_markAt_18 rfl rfl ?_
      refine gm_callVi (As := [.int (x2)]) dX4_markAt_19 (t_X5_switchOf n hn w x2) (ce_n_10 (n := n) hn) rfl cy_X5_switchOf tb_446 rfl rfl (rm_ok (by decide) (by decide)) (Nat.le_of_ble_eq_true rfl) (fun q1 => ?_)
      refine gm_goto (tgt := 26) dX4_markAt_22 (by decide) ?_
      exact gm_iret dX4_markAt_26

noncomputable def f_X4_switchCount (n : Nat) (w : Wd) : Option (Int32 × Wd) :=
  some (w n 0 5, w)
set_option maxRecDepth 100000 in
set_option maxHeartbeats 4000000 in
theorem t_X4_switchCount {l : Launch} {E : En} (n : Nat) (hn : n < 7) (w : Wd) : ∀ q, f_X4_switchCount  n w  = some q → Mt l E yX4_switchCount cX4_switchCount 1 (some .int) (rmk 1) [.ref (E.1 n 0)] w (eI q.1) q.2 := by
  refine Mt.of [some (.ref (E.1 n 0))] (plainFor_of_name pn_X4) rfl (Nat.le_of_ble_eq_true rfl) rfl ?_
  unfold f_X4_switchCount
  refine gm_aload_n dX4_switchCount_0 rfl rfl ?_
  refine gm_get dX4_switchCount_1 (ce_n_0 (n := n) hn) rfl inX4 5 (by decide) tb_157 rfl rfl ?_
  exact gm_iret dX4_switchCount_4
noncomputable def p_X4_switchCount (n : Nat) (w : Wd) : Int32 :=
  w n 0 5
theorem fp_X4_switchCount (n : Nat) (w : Wd) : f_X4_switchCount n w  = some (p_X4_switchCount n w , w) := by
  unfold f_X4_switchCount p_X4_switchCount
  (try simp only [leti, letl])
  repeat' (first | rfl | split)
theorem tk_X4_switchCount {l : Launch} {E : En} (n : Nat) (hn : n < 7) (w : Wd) : Mt l E yX4_switchCount cX4_switchCount 1 (some .int) (rmk 1) [.ref (E.1 n 0)] w (some (.int (p_X4_switchCount n w ))) w := t_X4_switchCount n hn w  _ (fp_X4_switchCount n w )

noncomputable def f_X4_routeRows (n : Nat) (w : Wd) : Option (Nat × Wd) :=
  some (n, w)
set_option maxRecDepth 100000 in
set_option maxHeartbeats 4000000 in
theorem t_X4_routeRows {l : Launch} {E : En} (n : Nat) (hn : n < 7) (w : Wd) : ∀ q, f_X4_routeRows  n w  = some q → Mt l E yX4_routeRows cX4_routeRows 1 (some (.object "CallRouter$Routes")) (rmk 1) [.ref (E.1 n 0)] w ((eR E 3) q.1) q.2 := by
  refine Mt.of [some (.ref (E.1 n 0))] (plainFor_of_name pn_X4) rfl (Nat.le_of_ble_eq_true rfl) rfl ?_
  unfold f_X4_routeRows
  refine gm_aload_n dX4_routeRows_0 rfl rfl ?_
  refine gm_get dX4_routeRows_1 (ce_n_0 (n := n) hn) rfl inX4 2 (by decide) tb_154 rfl rfl ?_
  exact gm_aret dX4_routeRows_4
theorem tk_X4_routeRows {l : Launch} {E : En} (n : Nat) (hn : n < 7) (w : Wd) : Mt l E yX4_routeRows cX4_routeRows 1 (some (.object "CallRouter$Routes")) (rmk 1) [.ref (E.1 n 0)] w (some (.ref (E.1 n 3))) w := t_X4_routeRows n hn w _ rfl

noncomputable def f_X4_minutes (n : Nat) (w : Wd) : Option (Int32 × Wd) :=
  some (w n 0 8, w)
set_option maxRecDepth 100000 in
set_option maxHeartbeats 4000000 in
theorem t_X4_minutes {l : Launch} {E : En} (n : Nat) (hn : n < 7) (w : Wd) : ∀ q, f_X4_minutes  n w  = some q → Mt l E yX4_minutes cX4_minutes 1 (some .int) (rmk 1) [.ref (E.1 n 0)] w (eI q.1) q.2 := by
  refine Mt.of [some (.ref (E.1 n 0))] (plainFor_of_name pn_X4) rfl (Nat.le_of_ble_eq_true rfl) rfl ?_
  unfold f_X4_minutes
  refine gm_aload_n dX4_minutes_0 rfl rfl ?_
  refine gm_get dX4_minutes_1 (ce_n_0 (n := n) hn) rfl inX4 8 (by decide) tb_160 rfl rfl ?_
  exact gm_iret dX4_minutes_4
noncomputable def p_X4_minutes (n : Nat) (w : Wd) : Int32 :=
  w n 0 8
theorem fp_X4_minutes (n : Nat) (w : Wd) : f_X4_minutes n w  = some (p_X4_minutes n w , w) := by
  unfold f_X4_minutes p_X4_minutes
  (try simp only [leti, letl])
  repeat' (first | rfl | split)
theorem tk_X4_minutes {l : Launch} {E : En} (n : Nat) (hn : n < 7) (w : Wd) : Mt l E yX4_minutes cX4_minutes 1 (some .int) (rmk 1) [.ref (E.1 n 0)] w (some (.int (p_X4_minutes n w ))) w := t_X4_minutes n hn w  _ (fp_X4_minutes n w )

noncomputable def f_X4_portRows (n : Nat) (w : Wd) : Option (Nat × Wd) :=
  some (n, w)
set_option maxRecDepth 100000 in
set_option maxHeartbeats 4000000 in
theorem t_X4_portRows {l : Launch} {E : En} (n : Nat) (hn : n < 7) (w : Wd) : ∀ q, f_X4_portRows  n w  = some q → Mt l E yX4_portRows cX4_portRows 1 (some (.object "CallRouter$Ports")) (rmk 1) [.ref (E.1 n 0)] w ((eR E 10) q.1) q.2 := by
  refine Mt.of [some (.ref (E.1 n 0))] (plainFor_of_name pn_X4) rfl (Nat.le_of_ble_eq_true rfl) rfl ?_
  unfold f_X4_portRows
  refine gm_aload_n dX4_portRows_0 rfl rfl ?_
  refine gm_get dX4_portRows_1 (ce_n_0 (n := n) hn) rfl inX4 3 (by decide) tb_155 rfl rfl ?_
  exact gm_aret dX4_portRows_4
theorem tk_X4_portRows {l : Launch} {E : En} (n : Nat) (hn : n < 7) (w : Wd) : Mt l E yX4_portRows cX4_portRows 1 (some (.object "CallRouter$Ports")) (rmk 1) [.ref (E.1 n 0)] w (some (.ref (E.1 n 10))) w := t_X4_portRows n hn w _ rfl

noncomputable def f_X4_copyFrom (n : Nat) (n2 : Nat) (w : Wd) : Option (Unit × Wd) :=
  letw (wcp w n2 1 n 1 0 0 8) fun w1 =>
  letw (wcp w1 n2 2 n 2 0 0 64) fun w2 =>
  (f_X6_copyFrom n n2 w2).bind fun q3 =>
  (f_X5_copyFrom n n2 q3.2).bind fun q4 =>
  (f_X0_copyFrom n n2 q4.2).bind fun q5 =>
  letw (wup q5.2 n 0 5 ((q5.2) n2 0 5)) fun w6 =>
  letw (wup w6 n 0 6 (w6 n2 0 6)) fun w7 =>
  letw (wup w7 n 0 7 (w7 n2 0 7)) fun w8 =>
  letw (wup w8 n 0 8 (w8 n2 0 8)) fun w9 =>
  some ((), w9)
set_option maxRecDepth 100000 in
set_option maxHeartbeats 4000000 in
theorem t_X4_copyFrom {l : Launch} {E : En} (n : Nat) (n2 : Nat) (hn : n < 7) (hn2 : n2 < 7) (w : Wd) : ∀ q, f_X4_copyFrom  n n2 w  = some q → Mt l E yX4_copyFrom cX4_copyFrom 2 none (rmk 3) [.ref (E.1 n 0), .ref (E.1 n2 0)] w (eV q.1) q.2 := by
  refine Mt.of [some (.ref (E.1 n 0)), some (.ref (E.1 n2 0))] (plainFor_of_name pn_X4) rfl (Nat.le_of_ble_eq_true rfl) rfl ?_
  unfold f_X4_copyFrom
  refine gm_aload_n dX4_copyFrom_0 rfl rfl ?_
  refine gm_get dX4_copyFrom_1 (ce_n_0 (n := n2) hn2) rfl inX4 0 (by decide) tb_152 rfl rfl ?_
  refine gm_iconst (v := 0) dX4_copyFrom_4 (by decide) ?_
  refine gm_aload_n dX4_copyFrom_5 rfl rfl ?_
  refine gm_get dX4_copyFrom_6 (ce_n_0 (n := n) hn) rfl inX4 0 (by decide) tb_152 rfl rfl ?_
  refine gm_iconst (v := 0) dX4_copyFrom_9 (by decide) ?_
  refine gm_bipush (v := 8) dX4_copyFrom_10 (by decide) ?_
  refine gm_copyi (sp1 := 0) (dp1 := 0) (n2 := 8) dX4_copyFrom_12 (ce_n_1 (n := n2) hn2) (ce_n_1 (n := n) hn) tb_340 tb_342 tb_341 tb_69 (by decide) (by decide) (by decide) (by decide) (by decide) (by decide) (by decide) (by decide) (by decide) (by decide) (fun w1 => ?_)
  refine gm_aload_n dX4_copyFrom_15 rfl rfl ?_
  refine gm_get dX4_copyFrom_16 (ce_n_0 (n := n2) hn2) rfl inX4 1 (by decide) tb_153 rfl rfl ?_
  refine gm_iconst (v := 0) dX4_copyFrom_19 (by decide) ?_
  refine gm_aload_n dX4_copyFrom_20 rfl rfl ?_
  refine gm_get dX4_copyFrom_21 (ce_n_0 (n := n) hn) rfl inX4 1 (by decide) tb_153 rfl rfl ?_
  refine gm_iconst (v := 0) dX4_copyFrom_24 (by decide) ?_
  refine gm_bipush (v := 64) dX4_copyFrom_25 (by decide) ?_
  refine gm_copyi (sp1 := 0) (dp1 := 0) (n2 := 64) dX4_copyFrom_27 (ce_n_2 (n := n2) hn2) (ce_n_2 (n := n) hn) tb_340 tb_342 tb_341 tb_69 (by decide) (by decide) (by decide) (by decide) (by decide) (by decide) (by decide) (by decide) (by decide) (by decide) (fun w2 => ?_)
  refine gm_aload_n dX4_copyFrom_30 rfl rfl ?_
  refine gm_get dX4_copyFrom_31 (ce_n_0 (n := n) hn) rfl inX4 2 (by decide) tb_154 rfl rfl ?_
  refine gm_aload_n dX4_copyFrom_34 rfl rfl ?_
  refine gm_get dX4_copyFrom_35 (ce_n_0 (n := n2) hn2) rfl inX4 2 (by decide) tb_154 rfl rfl ?_
  refine gm_callVv (As := [.ref (E.1 n2 3)]) dX4_copyFrom_38 (t_X6_copyFrom n n2 hn hn2 w2) (ce_n_3 (n := n) hn) rfl cy_X6_copyFrom tb_343 rfl rfl (rm_ok (by decide) (by decide)) (Nat.le_of_ble_eq_true rfl) (fun q3 => ?_)
  refine gm_aload_n dX4_copyFrom_41 rfl rfl ?_
  refine gm_get dX4_copyFrom_42 (ce_n_0 (n := n) hn) rfl inX4 3 (by decide) tb_155 rfl rfl ?_
  refine gm_aload_n dX4_copyFrom_45 rfl rfl ?_
  refine gm_get dX4_copyFrom_46 (ce_n_0 (n := n2) hn2) rfl inX4 3 (by decide) tb_155 rfl rfl ?_
  refine gm_callVv (As := [.ref (E.1 n2 10)]) dX4_copyFrom_49 (t_X5_copyFrom n n2 hn hn2 q3.2) (ce_n_10 (n := n) hn) rfl cy_X5_copyFrom tb_348 rfl rfl (rm_ok (by decide) (by decide)) (Nat.le_of_ble_eq_true rfl) (fun q4 => ?_)
  refine gm_aload_n dX4_copyFrom_52 rfl rfl ?_
  refine gm_get dX4_copyFrom_53 (ce_n_0 (n := n) hn) rfl inX4 4 (by decide) tb_156 rfl rfl ?_
  refine gm_aload_n dX4_copyFrom_56 rfl rfl ?_
  refine gm_get dX4_copyFrom_57 (ce_n_0 (n := n2) hn2) rfl inX4 4 (by decide) tb_156 rfl rfl ?_
  refine gm_callVv (As := [.ref (E.1 n2 13)]) dX4_copyFrom_60 (t_X0_copyFrom n n2 hn hn2 q4.2) (ce_n_13 (n := n) hn) rfl cy_X0_copyFrom tb_353 rfl rfl (rm_ok (by decide) (by decide)) (Nat.le_of_ble_eq_true rfl) (fun q5 => ?_)
  refine gm_aload_n dX4_copyFrom_63 rfl rfl ?_
  refine gm_aload_n dX4_copyFrom_64 rfl rfl ?_
  refine gm_get dX4_copyFrom_65 (ce_n_0 (n := n2) hn2) rfl inX4 5 (by decide) tb_157 rfl rfl ?_
  refine gm_put dX4_copyFrom_68 (ce_n_0 (n := n) hn) rfl inX4 tyX4 tyX4_ok nmX4 5 (by decide) tb_157 rfl rfl (by decide +kernel) (fun _ => rfl) (fun _ => rfl) (fun w6 => ?_)
  refine gm_aload_n dX4_copyFrom_71 rfl rfl ?_
  refine gm_aload_n dX4_copyFrom_72 rfl rfl ?_
  refine gm_get dX4_copyFrom_73 (ce_n_0 (n := n2) hn2) rfl inX4 6 (by decide) tb_158 rfl rfl ?_
  refine gm_put dX4_copyFrom_76 (ce_n_0 (n := n) hn) rfl inX4 tyX4 tyX4_ok nmX4 6 (by decide) tb_158 rfl rfl (by decide +kernel) (fun _ => rfl) (fun _ => rfl) (fun w7 => ?_)
  refine gm_aload_n dX4_copyFrom_79 rfl rfl ?_
  refine gm_aload_n dX4_copyFrom_80 rfl rfl ?_
  refine gm_get dX4_copyFrom_81 (ce_n_0 (n := n2) hn2) rfl inX4 7 (by decide) tb_159 rfl rfl ?_
  refine gm_put dX4_copyFrom_84 (ce_n_0 (n := n) hn) rfl inX4 tyX4 tyX4_ok nmX4 7 (by decide) tb_159 rfl rfl (by decide +kernel) (fun _ => rfl) (fun _ => rfl) (fun w8 => ?_)
  refine gm_aload_n dX4_copyFrom_87 rfl rfl ?_
  refine gm_aload_n dX4_copyFrom_88 rfl rfl ?_
  refine gm_get dX4_copyFrom_89 (ce_n_0 (n := n2) hn2) rfl inX4 8 (by decide) tb_160 rfl rfl ?_
  refine gm_put dX4_copyFrom_92 (ce_n_0 (n := n) hn) rfl inX4 tyX4 tyX4_ok nmX4 8 (by decide) tb_160 rfl rfl (by decide +kernel) (fun _ => rfl) (fun _ => rfl) (fun w9 => ?_)
  exact gm_vret dX4_copyFrom_95

noncomputable def f_X4_goesOn (n : Nat) (w : Wd) (x1 : Int32) (x2 : Int32) : Option (Int32 × Wd) :=
  if (p_X4_hasSwitch n w x1) = 0 then
    some (0, w)
  else
    if ib x1 8 = true then
    if (((w n 1 (Int32.toNatClampNeg x1)) >>> (x2 &&& 31)) &&& 1) = 0 then
      some (0, w)
    else
      some (1, w)
    else none
set_option maxRecDepth 100000 in
set_option maxHeartbeats 4000000 in
theorem t_X4_goesOn {l : Launch} {E : En} (n : Nat) (hn : n < 7) (w : Wd) (x1 : Int32) (x2 : Int32) : ∀ q, f_X4_goesOn  n w x1 x2 = some q → Mt l E yX4_goesOn cX4_goesOn 3 (some .boolean) (rmk 2) [.ref (E.1 n 0), .int (x1), .int (x2)] w (eI q.1) q.2 := by
  refine Mt.of [some (.ref (E.1 n 0)), some (.int (x1)), some (.int (x2))] (plainFor_of_name pn_X4) rfl (Nat.le_of_ble_eq_true rfl) rfl ?_
  unfold f_X4_goesOn
  refine gm_aload_n dX4_goesOn_0 rfl rfl ?_
  refine gm_iload_n dX4_goesOn_1 rfl rfl ?_
  refine gm_callVk (As := [.int (x1)]) dX4_goesOn_2 (tk_X4_hasSwitch n hn w x1) (ce_n_0 (n := n) hn) rfl cy_X4_hasSwitch tb_374 rfl rfl (rm_ok (by decide) (by decide)) (Nat.le_of_ble_eq_true rfl) ?_
  refine gm_if_eq (tgt := 25) dX4_goesOn_5 (by decide) ?_ ?_
  · refine gm_iconst (v := 0) dX4_goesOn_25 (by decide) ?_
    exact gm_zret dX4_goesOn_26 rfl
  · refine gm_aload_n dX4_goesOn_8 rfl rfl ?_
    refine gm_get dX4_goesOn_9 (ce_n_0 (n := n) hn) rfl inX4 0 (by decide) tb_152 rfl rfl ?_
    refine gm_iload_n dX4_goesOn_12 rfl rfl ?_
    refine gm_iald dX4_goesOn_13 (ce_n_1 (n := n) hn) ?_
    refine gm_iload_n dX4_goesOn_14 rfl rfl ?_
    refine gm_ishr dX4_goesOn_15 ?_
    refine gm_iconst (v := 1) dX4_goesOn_16 (by decide) ?_
    refine gm_iand dX4_goesOn_17 ?_
    refine gm_if_eq (tgt := 25) dX4_goesOn_18 (by decide) ?_ ?_
    · refine gm_iconst (v := 0) dX4_goesOn_25 (by decide) ?_
      exact gm_zret dX4_goesOn_26 rfl
    · refine gm_iconst (v := 1) dX4_goesOn_21 (by decide) ?_
      refine gm_goto (tgt := 26) dX4_goesOn_22 (by decide) ?_
      exact gm_zret dX4_goesOn_26 rfl

noncomputable def f_X3_length (w : Wd) : Option (Int32 × Wd) :=
  some (w 7 11 2, w)
set_option maxRecDepth 100000 in
set_option maxHeartbeats 4000000 in
theorem t_X3_length {l : Launch} {E : En} (w : Wd) : ∀ q, f_X3_length   w  = some q → Mt l E yX3_length cX3_length 1 (some .int) (rmk 1) [.ref (E.1 7 11)] w (eI q.1) q.2 := by
  refine Mt.of [some (.ref (E.1 7 11))] (plainFor_of_name pn_X3) rfl (Nat.le_of_ble_eq_true rfl) rfl ?_
  unfold f_X3_length
  refine gm_aload_n dX3_length_0 rfl rfl ?_
  refine gm_get dX3_length_1 ce_7_11 rfl inX3 2 (by decide) tb_261 rfl rfl ?_
  exact gm_iret dX3_length_4
noncomputable def p_X3_length (w : Wd) : Int32 :=
  w 7 11 2
theorem fp_X3_length (w : Wd) : f_X3_length  w  = some (p_X3_length  w , w) := by
  unfold f_X3_length p_X3_length
  (try simp only [leti, letl])
  repeat' (first | rfl | split)
theorem tk_X3_length {l : Launch} {E : En} (w : Wd) : Mt l E yX3_length cX3_length 1 (some .int) (rmk 1) [.ref (E.1 7 11)] w (some (.int (p_X3_length  w ))) w := t_X3_length   w  _ (fp_X3_length  w )

noncomputable def f_X3_number (w : Wd) : Option (Int32 × Wd) :=
  some (w 7 11 3, w)
set_option maxRecDepth 100000 in
set_option maxHeartbeats 4000000 in
theorem t_X3_number {l : Launch} {E : En} (w : Wd) : ∀ q, f_X3_number   w  = some q → Mt l E yX3_number cX3_number 1 (some .int) (rmk 1) [.ref (E.1 7 11)] w (eI q.1) q.2 := by
  refine Mt.of [some (.ref (E.1 7 11))] (plainFor_of_name pn_X3) rfl (Nat.le_of_ble_eq_true rfl) rfl ?_
  unfold f_X3_number
  refine gm_aload_n dX3_number_0 rfl rfl ?_
  refine gm_get dX3_number_1 ce_7_11 rfl inX3 3 (by decide) tb_262 rfl rfl ?_
  exact gm_iret dX3_number_4
noncomputable def p_X3_number (w : Wd) : Int32 :=
  w 7 11 3
theorem fp_X3_number (w : Wd) : f_X3_number  w  = some (p_X3_number  w , w) := by
  unfold f_X3_number p_X3_number
  (try simp only [leti, letl])
  repeat' (first | rfl | split)
theorem tk_X3_number {l : Launch} {E : En} (w : Wd) : Mt l E yX3_number cX3_number 1 (some .int) (rmk 1) [.ref (E.1 7 11)] w (some (.int (p_X3_number  w ))) w := t_X3_number   w  _ (fp_X3_number  w )

noncomputable def f_X4_callRows (n : Nat) (w : Wd) : Option (Nat × Wd) :=
  some (n, w)
set_option maxRecDepth 100000 in
set_option maxHeartbeats 4000000 in
theorem t_X4_callRows {l : Launch} {E : En} (n : Nat) (hn : n < 7) (w : Wd) : ∀ q, f_X4_callRows  n w  = some q → Mt l E yX4_callRows cX4_callRows 1 (some (.object "CallRouter$Calls")) (rmk 1) [.ref (E.1 n 0)] w ((eR E 13) q.1) q.2 := by
  refine Mt.of [some (.ref (E.1 n 0))] (plainFor_of_name pn_X4) rfl (Nat.le_of_ble_eq_true rfl) rfl ?_
  unfold f_X4_callRows
  refine gm_aload_n dX4_callRows_0 rfl rfl ?_
  refine gm_get dX4_callRows_1 (ce_n_0 (n := n) hn) rfl inX4 4 (by decide) tb_156 rfl rfl ?_
  exact gm_aret dX4_callRows_4
theorem tk_X4_callRows {l : Launch} {E : En} (n : Nat) (hn : n < 7) (w : Wd) : Mt l E yX4_callRows cX4_callRows 1 (some (.object "CallRouter$Calls")) (rmk 1) [.ref (E.1 n 0)] w (some (.ref (E.1 n 13))) w := t_X4_callRows n hn w _ rfl

noncomputable def f_X3_step (w : Wd) (x1 : Int32) : Option (Int32 × Wd) :=
  if x1 < 0 then
    some ((-9), w)
  else
    if (w 7 11 2) ≤ x1 then
      some ((-9), w)
    else
      if 6 ≤ x1 then
        some ((-9), w)
      else
        if ib x1 6 = true then
        some (w 7 15 (Int32.toNatClampNeg x1), w)
        else none
set_option maxRecDepth 100000 in
set_option maxHeartbeats 4000000 in
theorem t_X3_step {l : Launch} {E : En} (w : Wd) (x1 : Int32) : ∀ q, f_X3_step   w x1 = some q → Mt l E yX3_step cX3_step 2 (some .int) (rmk 1) [.ref (E.1 7 11), .int (x1)] w (eI q.1) q.2 := by
  refine Mt.of [some (.ref (E.1 7 11)), some (.int (x1))] (plainFor_of_name pn_X3) rfl (Nat.le_of_ble_eq_true rfl) rfl ?_
  unfold f_X3_step
  refine gm_iload_n dX3_step_0 rfl rfl ?_
  refine gm_if_lt (tgt := 27) dX3_step_1 (by decide) ?_ ?_
  · refine gm_bipush (v := (-9)) dX3_step_27 (by decide) ?_
    exact gm_iret dX3_step_29
  · refine gm_iload_n dX3_step_4 rfl rfl ?_
    refine gm_aload_n dX3_step_5 rfl rfl ?_
    refine gm_get dX3_step_6 ce_7_11 rfl inX3 2 (by decide) tb_261 rfl rfl ?_
    refine gm_icmp_ge (tgt := 27) dX3_step_9 (by decide) ?_ ?_
    · refine gm_bipush (v := (-9)) dX3_step_27 (by decide) ?_
      exact gm_iret dX3_step_29
    · refine gm_iload_n dX3_step_12 rfl rfl ?_
      refine gm_bipush (v := 6) dX3_step_13 (by decide) ?_
      refine gm_icmp_ge (tgt := 27) dX3_step_15 (by decide) ?_ ?_
      · refine gm_bipush (v := (-9)) dX3_step_27 (by decide) ?_
        exact gm_iret dX3_step_29
      · refine gm_aload_n dX3_step_18 rfl rfl ?_
        refine gm_get dX3_step_19 ce_7_11 rfl inX3 1 (by decide) tb_260 rfl rfl ?_
        refine gm_iload_n dX3_step_22 rfl rfl ?_
        refine gm_iald dX3_step_23 ce_7_15 ?_
        refine gm_goto (tgt := 29) dX3_step_24 (by decide) ?_
        exact gm_iret dX3_step_29

noncomputable def f_X4_addDebt (n : Nat) (w : Wd) (x1 : Int32) (x2 : Int32) (x3 : Int32) : Option (Unit × Wd) :=
  if (p_X4_hasSwitch n w x1) = 0 then
    some ((), w)
  else
    if (p_X4_hasSwitch n w x2) = 0 then
      some ((), w)
    else
      if ib ((x1 * 8) + x2) 64 = true then
      if ib ((x1 * 8) + x2) 64 = true then
      letw (wup w n 2 (Int32.toNatClampNeg ((x1 * 8) + x2)) ((w n 2 (Int32.toNatClampNeg ((x1 * 8) + x2))) + x3)) fun w1 =>
      some ((), w1)
      else none
      else none
set_option maxRecDepth 100000 in
set_option maxHeartbeats 4000000 in
theorem t_X4_addDebt {l : Launch} {E : En} (n : Nat) (hn : n < 7) (w : Wd) (x1 : Int32) (x2 : Int32) (x3 : Int32) : ∀ q, f_X4_addDebt  n w x1 x2 x3 = some q → Mt l E yX4_addDebt cX4_addDebt 4 none (rmk 2) [.ref (E.1 n 0), .int (x1), .int (x2), .int (x3)] w (eV q.1) q.2 := by
  refine Mt.of [some (.ref (E.1 n 0)), some (.int (x1)), some (.int (x2)), some (.int (x3))] (plainFor_of_name pn_X4) rfl (Nat.le_of_ble_eq_true rfl) rfl ?_
  unfold f_X4_addDebt
  refine gm_aload_n dX4_addDebt_0 rfl rfl ?_
  refine gm_iload_n dX4_addDebt_1 rfl rfl ?_
  refine gm_callVk (As := [.int (x1)]) dX4_addDebt_2 (tk_X4_hasSwitch n hn w x1) (ce_n_0 (n := n) hn) rfl cy_X4_hasSwitch tb_374 rfl rfl (rm_ok (by decide) (by decide)) (Nat.le_of_ble_eq_true rfl) ?_
  refine gm_if_eq (tgt := 31) dX4_addDebt_5 (by decide) ?_ ?_
  · exact gm_vret dX4_addDebt_31
  · refine gm_aload_n dX4_addDebt_8 rfl rfl ?_
    refine gm_iload_n dX4_addDebt_9 rfl rfl ?_
    refine gm_callVk (As := [.int (x2)]) dX4_addDebt_10 (tk_X4_hasSwitch n hn w x2) (ce_n_0 (n := n) hn) rfl cy_X4_hasSwitch tb_374 rfl rfl (rm_ok (by decide) (by decide)) (Nat.le_of_ble_eq_true rfl) ?_
    refine gm_if_eq (tgt := 31) dX4_addDebt_13 (by decide) ?_ ?_
    · exact gm_vret dX4_addDebt_31
    · refine gm_aload_n dX4_addDebt_16 rfl rfl ?_
      refine gm_get dX4_addDebt_17 (ce_n_0 (n := n) hn) rfl inX4 1 (by decide) tb_153 rfl rfl ?_
      refine gm_iload_n dX4_addDebt_20 rfl rfl ?_
      refine gm_bipush (v := 8) dX4_addDebt_21 (by decide) ?_
      refine gm_imul dX4_addDebt_23 ?_
      refine gm_iload_n dX4_addDebt_24 rfl rfl ?_
      refine gm_iadd dX4_addDebt_25 ?_
      refine gm_dup2 dX4_addDebt_26 rfl rfl ?_
      refine gm_iald dX4_addDebt_27 (ce_n_2 (n := n) hn) ?_
      refine gm_iload_n dX4_addDebt_28 rfl rfl ?_
      refine gm_iadd dX4_addDebt_29 ?_
      refine gm_iast dX4_addDebt_30 (ce_n_2 (n := n) hn) (fun w1 => ?_)
      exact gm_vret dX4_addDebt_31

noncomputable def f_X4_changeCodes (n : Nat) (w : Wd) (x1 : Int32) (x2 : Int32) : Option (Int32 × Wd) :=
  if (p_X4_hasSwitch n w x1) = 0 then
    some ((-1), w)
  else
    if ib x1 8 = true then
    leti (w n 1 (Int32.toNatClampNeg x1)) fun u1 =>
    if ib x1 8 = true then
    letw (wup w n 1 (Int32.toNatClampNeg x1) x2) fun w2 =>
    some (u1, w2)
    else none
    else none
set_option maxRecDepth 100000 in
set_option maxHeartbeats 4000000 in
theorem t_X4_changeCodes {l : Launch} {E : En} (n : Nat) (hn : n < 7) (w : Wd) (x1 : Int32) (x2 : Int32) : ∀ q, f_X4_changeCodes  n w x1 x2 = some q → Mt l E yX4_changeCodes cX4_changeCodes 4 (some .int) (rmk 2) [.ref (E.1 n 0), .int (x1), .int (x2)] w (eI q.1) q.2 := by
  refine Mt.of [some (.ref (E.1 n 0)), some (.int (x1)), some (.int (x2)), none] (plainFor_of_name pn_X4) rfl (Nat.le_of_ble_eq_true rfl) rfl ?_
  unfold f_X4_changeCodes
  refine gm_aload_n dX4_changeCodes_0 rfl rfl ?_
  refine gm_iload_n dX4_changeCodes_1 rfl rfl ?_
  refine gm_callVk (As := [.int (x1)]) dX4_changeCodes_2 (tk_X4_hasSwitch n hn w x1) (ce_n_0 (n := n) hn) rfl cy_X4_hasSwitch tb_374 rfl rfl (rm_ok (by decide) (by decide)) (Nat.le_of_ble_eq_true rfl) ?_
  refine gm_if_ne (tgt := 10) dX4_changeCodes_5 (by decide) ?_ ?_
  · refine gm_aload_n dX4_changeCodes_10 rfl rfl ?_
    refine gm_get dX4_changeCodes_11 (ce_n_0 (n := n) hn) rfl inX4 0 (by decide) tb_152 rfl rfl ?_
    refine gm_iload_n dX4_changeCodes_14 rfl rfl ?_
    refine gm_iald dX4_changeCodes_15 (ce_n_1 (n := n) hn) ?_
    refine gm_leti_st (fun u1 => ?_)
    refine gm_istore_n (lv' := [some (.ref (E.1 n 0)), some (.int (x1)), some (.int (x2)), some (.int (u1))]) dX4_changeCodes_16 rfl (by decide) rfl rfl ?_
    refine gm_aload_n dX4_changeCodes_17 rfl rfl ?_
    refine gm_get dX4_changeCodes_18 (ce_n_0 (n := n) hn) rfl inX4 0 (by decide) tb_152 rfl rfl ?_
    refine gm_iload_n dX4_changeCodes_21 rfl rfl ?_
    refine gm_iload_n dX4_changeCodes_22 rfl rfl ?_
    refine gm_iast dX4_changeCodes_23 (ce_n_1 (n := n) hn) (fun w2 => ?_)
    refine gm_iload_n dX4_changeCodes_24 rfl rfl ?_
    exact gm_iret dX4_changeCodes_25
  · refine gm_iconst (v := (-1)) dX4_changeCodes_8 (by decide) ?_
    exact gm_iret dX4_changeCodes_9

noncomputable def f_X4_changeLimit (n : Nat) (w : Wd) (x1 : Int32) : Option (Int32 × Wd) :=
  leti (w n 0 7) fun u1 =>
  letw (wup w n 0 7 x1) fun w2 =>
  some (u1, w2)
set_option maxRecDepth 100000 in
set_option maxHeartbeats 4000000 in
theorem t_X4_changeLimit {l : Launch} {E : En} (n : Nat) (hn : n < 7) (w : Wd) (x1 : Int32) : ∀ q, f_X4_changeLimit  n w x1 = some q → Mt l E yX4_changeLimit cX4_changeLimit 3 (some .int) (rmk 1) [.ref (E.1 n 0), .int (x1)] w (eI q.1) q.2 := by
  refine Mt.of [some (.ref (E.1 n 0)), some (.int (x1)), none] (plainFor_of_name pn_X4) rfl (Nat.le_of_ble_eq_true rfl) rfl ?_
  unfold f_X4_changeLimit
  refine gm_aload_n dX4_changeLimit_0 rfl rfl ?_
  refine gm_get dX4_changeLimit_1 (ce_n_0 (n := n) hn) rfl inX4 7 (by decide) tb_159 rfl rfl ?_
  refine gm_leti_st (fun u1 => ?_)
  refine gm_istore_n (lv' := [some (.ref (E.1 n 0)), some (.int (x1)), some (.int (u1))]) dX4_changeLimit_4 rfl (by decide) rfl rfl ?_
  refine gm_aload_n dX4_changeLimit_5 rfl rfl ?_
  refine gm_iload_n dX4_changeLimit_6 rfl rfl ?_
  refine gm_put dX4_changeLimit_7 (ce_n_0 (n := n) hn) rfl inX4 tyX4 tyX4_ok nmX4 7 (by decide) tb_159 rfl rfl (by decide +kernel) (fun _ => rfl) (fun _ => rfl) (fun w2 => ?_)
  refine gm_iload_n dX4_changeLimit_10 rfl rfl ?_
  exact gm_iret dX4_changeLimit_11

noncomputable def f_X4_changeLookup (n : Nat) (w : Wd) (x1 : Int32) (x2 : Int32) : Option (Unit × Wd) :=
  if (p_X4_hasSwitch n w x1) = 0 then
    some ((), w)
  else
    if x2 = 0 then
      letw (wup w n 0 6 ((w n 0 6) &&& ((1 <<< (x1 &&& 31)) ^^^ (-1)))) fun w1 =>
      some ((), w1)
    else
      letw (wup w n 0 6 ((w n 0 6) ||| (1 <<< (x1 &&& 31)))) fun w2 =>
      some ((), w2)
set_option maxRecDepth 100000 in
set_option maxHeartbeats 4000000 in
theorem t_X4_changeLookup {l : Launch} {E : En} (n : Nat) (hn : n < 7) (w : Wd) (x1 : Int32) (x2 : Int32) : ∀ q, f_X4_changeLookup  n w x1 x2 = some q → Mt l E yX4_changeLookup cX4_changeLookup 3 none (rmk 2) [.ref (E.1 n 0), .int (x1), .int (x2)] w (eV q.1) q.2 := by
  refine Mt.of [some (.ref (E.1 n 0)), some (.int (x1)), some (.int (x2))] (plainFor_of_name pn_X4) rfl (Nat.le_of_ble_eq_true rfl) rfl ?_
  unfold f_X4_changeLookup
  refine gm_aload_n dX4_changeLookup_0 rfl rfl ?_
  refine gm_iload_n dX4_changeLookup_1 rfl rfl ?_
  refine gm_callVk (As := [.int (x1)]) dX4_changeLookup_2 (tk_X4_hasSwitch n hn w x1) (ce_n_0 (n := n) hn) rfl cy_X4_hasSwitch tb_374 rfl rfl (rm_ok (by decide) (by decide)) (Nat.le_of_ble_eq_true rfl) ?_
  refine gm_if_eq (tgt := 37) dX4_changeLookup_5 (by decide) ?_ ?_
  · exact gm_vret dX4_changeLookup_37
  · refine gm_aload_n dX4_changeLookup_8 rfl rfl ?_
    refine gm_iload_n dX4_changeLookup_9 rfl rfl ?_
    refine gm_if_eq (tgt := 24) dX4_changeLookup_10 (by decide) ?_ ?_
    · refine gm_aload_n dX4_changeLookup_24 rfl rfl ?_
      refine gm_get dX4_changeLookup_25 (ce_n_0 (n := n) hn) rfl inX4 6 (by decide) tb_158 rfl rfl ?_
      refine gm_iconst (v := 1) dX4_changeLookup_28 (by decide) ?_
      refine gm_iload_n dX4_changeLookup_29 rfl rfl ?_
      refine gm_ishl dX4_changeLookup_30 ?_
      refine gm_iconst (v := (-1)) dX4_changeLookup_31 (by decide) ?_
      refine gm_ixor dX4_changeLookup_32 ?_
      refine gm_iand dX4_changeLookup_33 ?_
      refine gm_put dX4_changeLookup_34 (ce_n_0 (n := n) hn) rfl inX4 tyX4 tyX4_ok nmX4 6 (by decide) tb_158 rfl rfl (by decide +kernel) (fun _ => rfl) (fun _ => rfl) (fun w1 => ?_)
      exact gm_vret dX4_changeLookup_37
    · refine gm_aload_n dX4_changeLookup_13 rfl rfl ?_
      refine gm_get dX4_changeLookup_14 (ce_n_0 (n := n) hn) rfl inX4 6 (by decide) tb_158 rfl rfl ?_
      refine gm_iconst (v := 1) dX4_changeLookup_17 (by decide) ?_
      refine gm_iload_n dX4_changeLookup_18 rfl rfl ?_
      refine gm_ishl dX4_changeLookup_19 ?_
      refine gm_ior dX4_changeLookup_20 ?_
      refine gm_goto (tgt := 34) dX4_changeLookup_21 (by decide) ?_
      refine gm_put dX4_changeLookup_34 (ce_n_0 (n := n) hn) rfl inX4 tyX4 tyX4_ok nmX4 6 (by decide) tb_158 rfl rfl (by decide +kernel) (fun _ => rfl) (fun _ => rfl) (fun w2 => ?_)
      exact gm_vret dX4_changeLookup_37

noncomputable def b_X4_connect_18 (n : Nat) (rc18 : Wd → Int32 → Int32 → Option (Unit × Wd)) (w : Wd) (y1 : Int32) (y3 : Int32) : Option (Unit × Wd) :=
  if 6 ≤ y3 then
    some ((), w)
  else
    if (p_X3_length w) ≤ y3 then
      some ((), w)
    else
      (f_X3_step w y3).bind fun q2 =>
      (f_X0_addStep n q2.2 y1 q2.1).bind fun q3 =>
      (f_X6_occupy n q3.2 q2.1).bind fun q4 =>
      rc18 q4.2 y1 (y3 + 1)
set_option maxRecDepth 100000 in
set_option maxHeartbeats 4000000 in
theorem kb_X4_connect_18 {l : Launch} {E : En} (n : Nat) (hn : n < 7) (rc18 : Wd → Int32 → Int32 → Option (Unit × Wd)) (hrc18 : ∀ (w : Wd) (y1 : Int32) (y3 : Int32), Gm l E cX4_connect 5 RX4 none (rmk (4)) eV (rc18 w y1 y3) w 18 [some (.ref (E.1 n 0)), some (.int (y1)), some (.ref (E.1 7 11)), some (.int (y3)), none] []) (w : Wd) (y1 : Int32) (y3 : Int32) : Gm l E cX4_connect 5 RX4 none (rmk (4)) eV (b_X4_connect_18 n  rc18 w y1 y3) w 18 [some (.ref (E.1 n 0)), some (.int (y1)), some (.ref (E.1 7 11)), some (.int (y3)), none] [] := by
  unfold b_X4_connect_18
  refine gm_iload_n dX4_connect_18 rfl rfl ?_
  refine gm_bipush (v := 6) dX4_connect_19 (by decide) ?_
  refine gm_icmp_ge (tgt := 64) dX4_connect_21 (by decide) ?_ ?_
  · exact gm_vret dX4_connect_64
  · refine gm_iload_n dX4_connect_24 rfl rfl ?_
    refine gm_aload_n dX4_connect_25 rfl rfl ?_
    refine gm_callVk (As := []) dX4_connect_26 (tk_X3_length w) ce_7_11 rfl cy_X3_length tb_610 rfl rfl (rm_ok (by decide) (by decide)) (Nat.le_of_ble_eq_true rfl) ?_
    refine gm_icmp_ge (tgt := 64) dX4_connect_29 (by decide) ?_ ?_
    · exact gm_vret dX4_connect_64
    · refine gm_aload_n dX4_connect_32 rfl rfl ?_
      refine gm_iload_n dX4_connect_33 rfl rfl ?_
      refine gm_callVi (As := [.int (y3)]) dX4_connect_34 (t_X3_step w y3) ce_7_11 rfl cy_X3_step tb_614 rfl rfl (rm_ok (by decide) (by decide)) (Nat.le_of_ble_eq_true rfl) (fun q2 => ?_)
      refine gm_istore (lv' := [some (.ref (E.1 n 0)), some (.int (y1)), some (.ref (E.1 7 11)), some (.int (y3)), some (.int (q2.1))]) dX4_connect_37 (by decide) rfl rfl ?_
      refine gm_aload_n dX4_connect_39 rfl rfl ?_
      refine gm_get dX4_connect_40 (ce_n_0 (n := n) hn) rfl inX4 4 (by decide) tb_156 rfl rfl ?_
      refine gm_iload_n dX4_connect_43 rfl rfl ?_
      refine gm_iload dX4_connect_44 rfl ?_
      refine gm_callVv (As := [.int (y1), .int (q2.1)]) dX4_connect_46 (t_X0_addStep n hn q2.2 y1 q2.1) (ce_n_13 (n := n) hn) rfl cy_X0_addStep tb_618 rfl rfl (rm_ok (by decide) (by decide)) (Nat.le_of_ble_eq_true rfl) (fun q3 => ?_)
      refine gm_aload_n dX4_connect_49 rfl rfl ?_
      refine gm_get dX4_connect_50 (ce_n_0 (n := n) hn) rfl inX4 2 (by decide) tb_154 rfl rfl ?_
      refine gm_iload dX4_connect_53 rfl ?_
      refine gm_callVv (As := [.int (q2.1)]) dX4_connect_55 (t_X6_occupy n hn q3.2 q2.1) (ce_n_3 (n := n) hn) rfl cy_X6_occupy tb_626 rfl rfl (rm_ok (by decide) (by decide)) (Nat.le_of_ble_eq_true rfl) (fun q4 => ?_)
      refine gm_iinc (v := 1) (lv' := [some (.ref (E.1 n 0)), some (.int (y1)), some (.ref (E.1 7 11)), some (.int (y3 + 1)), some (.int (q2.1))]) dX4_connect_58 rfl (by decide) (by decide) rfl rfl ?_
      refine gm_goto (tgt := 18) dX4_connect_61 (by decide) ?_
      exact gm_weak (lsub_s (lsub_s (lsub_s (lsub_s (lsub_n lsub_0))))) (hrc18 q4.2 y1 (y3 + 1))
noncomputable def h_X4_connect_18 (n : Nat) : Nat → (Wd → Int32 → Int32 → Option (Unit × Wd))
  | 0 => fun _ _ _ => none
  | fu + 1 => b_X4_connect_18 n   (h_X4_connect_18 n   fu)
set_option maxRecDepth 100000 in
set_option maxHeartbeats 4000000 in
theorem k_X4_connect_18 {l : Launch} {E : En} (n : Nat) (hn : n < 7) : ∀ (fu : Nat) (w : Wd) (y1 : Int32) (y3 : Int32), Gm l E cX4_connect 5 RX4 none (rmk (4)) eV (h_X4_connect_18 n   fu w y1 y3) w 18 [some (.ref (E.1 n 0)), some (.int (y1)), some (.ref (E.1 7 11)), some (.int (y3)), none] []
  | 0, _, _, _ => gm_none
  | fu + 1, w, y1, y3 => kb_X4_connect_18 n hn   (h_X4_connect_18 n   fu)  (fun w y1 y3 => k_X4_connect_18 n hn    fu w y1 y3) w y1 y3
noncomputable def f_X4_connect (n : Nat) (w : Wd) (x1 : Int32) : Option (Unit × Wd) :=
  (f_X0_put n w x1 (p_X3_number w) (w n 0 8)).bind fun q1 =>
  h_X4_connect_18 n FU q1.2 x1 0
set_option maxRecDepth 100000 in
set_option maxHeartbeats 4000000 in
theorem t_X4_connect {l : Launch} {E : En} (n : Nat) (hn : n < 7) (w : Wd) (x1 : Int32) : ∀ q, f_X4_connect  n w x1 = some q → Mt l E yX4_connect cX4_connect 5 none (rmk 4) [.ref (E.1 n 0), .int (x1), .ref (E.1 7 11)] w (eV q.1) q.2 := by
  refine Mt.of [some (.ref (E.1 n 0)), some (.int (x1)), some (.ref (E.1 7 11)), none, none] (plainFor_of_name pn_X4) rfl (Nat.le_of_ble_eq_true rfl) rfl ?_
  unfold f_X4_connect
  refine gm_aload_n dX4_connect_0 rfl rfl ?_
  refine gm_get dX4_connect_1 (ce_n_0 (n := n) hn) rfl inX4 4 (by decide) tb_156 rfl rfl ?_
  refine gm_iload_n dX4_connect_4 rfl rfl ?_
  refine gm_aload_n dX4_connect_5 rfl rfl ?_
  refine gm_callVk (As := []) dX4_connect_6 (tk_X3_number w) ce_7_11 rfl cy_X3_number tb_601 rfl rfl (rm_ok (by decide) (by decide)) (Nat.le_of_ble_eq_true rfl) ?_
  refine gm_aload_n dX4_connect_9 rfl rfl ?_
  refine gm_get dX4_connect_10 (ce_n_0 (n := n) hn) rfl inX4 8 (by decide) tb_160 rfl rfl ?_
  refine gm_callVv (As := [.int (x1), .int (p_X3_number w), .int (w n 0 8)]) dX4_connect_13 (t_X0_put n hn w x1 (p_X3_number w) (w n 0 8)) (ce_n_13 (n := n) hn) rfl cy_X0_put tb_605 rfl rfl (rm_ok (by decide) (by decide)) (Nat.le_of_ble_eq_true rfl) (fun q1 => ?_)
  refine gm_iconst (v := 0) dX4_connect_16 (by decide) ?_
  refine gm_istore_n (lv' := [some (.ref (E.1 n 0)), some (.int (x1)), some (.ref (E.1 7 11)), some (.int (0)), none]) dX4_connect_17 rfl (by decide) rfl rfl ?_
  exact gm_weak (lsub_s (lsub_s (lsub_s (lsub_s (lsub_n lsub_0))))) (k_X4_connect_18 n hn FU q1.2 x1 0)

noncomputable def f_X4_debt (n : Nat) (w : Wd) (x1 : Int32) (x2 : Int32) : Option (Int32 × Wd) :=
  if (p_X4_hasSwitch n w x1) = 0 then
    some (0, w)
  else
    if (p_X4_hasSwitch n w x2) = 0 then
      some (0, w)
    else
      if ib ((x1 * 8) + x2) 64 = true then
      some (w n 2 (Int32.toNatClampNeg ((x1 * 8) + x2)), w)
      else none
set_option maxRecDepth 100000 in
set_option maxHeartbeats 4000000 in
theorem t_X4_debt {l : Launch} {E : En} (n : Nat) (hn : n < 7) (w : Wd) (x1 : Int32) (x2 : Int32) : ∀ q, f_X4_debt  n w x1 x2 = some q → Mt l E yX4_debt cX4_debt 3 (some .int) (rmk 2) [.ref (E.1 n 0), .int (x1), .int (x2)] w (eI q.1) q.2 := by
  refine Mt.of [some (.ref (E.1 n 0)), some (.int (x1)), some (.int (x2))] (plainFor_of_name pn_X4) rfl (Nat.le_of_ble_eq_true rfl) rfl ?_
  unfold f_X4_debt
  refine gm_aload_n dX4_debt_0 rfl rfl ?_
  refine gm_iload_n dX4_debt_1 rfl rfl ?_
  refine gm_callVk (As := [.int (x1)]) dX4_debt_2 (tk_X4_hasSwitch n hn w x1) (ce_n_0 (n := n) hn) rfl cy_X4_hasSwitch tb_374 rfl rfl (rm_ok (by decide) (by decide)) (Nat.le_of_ble_eq_true rfl) ?_
  refine gm_if_eq (tgt := 30) dX4_debt_5 (by decide) ?_ ?_
  · refine gm_iconst (v := 0) dX4_debt_30 (by decide) ?_
    exact gm_iret dX4_debt_31
  · refine gm_aload_n dX4_debt_8 rfl rfl ?_
    refine gm_iload_n dX4_debt_9 rfl rfl ?_
    refine gm_callVk (As := [.int (x2)]) dX4_debt_10 (tk_X4_hasSwitch n hn w x2) (ce_n_0 (n := n) hn) rfl cy_X4_hasSwitch tb_374 rfl rfl (rm_ok (by decide) (by decide)) (Nat.le_of_ble_eq_true rfl) ?_
    refine gm_if_eq (tgt := 30) dX4_debt_13 (by decide) ?_ ?_
    · refine gm_iconst (v := 0) dX4_debt_30 (by decide) ?_
      exact gm_iret dX4_debt_31
    · refine gm_aload_n dX4_debt_16 rfl rfl ?_
      refine gm_get dX4_debt_17 (ce_n_0 (n := n) hn) rfl inX4 1 (by decide) tb_153 rfl rfl ?_
      refine gm_iload_n dX4_debt_20 rfl rfl ?_
      refine gm_bipush (v := 8) dX4_debt_21 (by decide) ?_
      refine gm_imul dX4_debt_23 ?_
      refine gm_iload_n dX4_debt_24 rfl rfl ?_
      refine gm_iadd dX4_debt_25 ?_
      refine gm_iald dX4_debt_26 (ce_n_2 (n := n) hn) ?_
      refine gm_goto (tgt := 31) dX4_debt_27 (by decide) ?_
      exact gm_iret dX4_debt_31

noncomputable def b_X4_foldDebts_17 (n : Nat) (rc5 : Wd → Int64 → Int32 → Option (Int64 × Wd)) (rc17 : Wd → Int64 → Int32 → Int32 → Option (Int64 × Wd)) (w : Wd) (y3 : Int64) (y5 : Int32) (y6 : Int32) : Option (Int64 × Wd) :=
  if (w n 0 5) ≤ y6 then
    rc5 w y3 (y5 + 1)
  else
    (f_X4_debt n w y5 y6).bind fun q1 =>
    letl ((31 * y3) + (Int32.toInt64 q1.1)) fun u2 =>
    rc17 q1.2 u2 y5 (y6 + 1)
set_option maxRecDepth 100000 in
set_option maxHeartbeats 4000000 in
theorem kb_X4_foldDebts_17 {l : Launch} {E : En} (n : Nat) (hn : n < 7) (rc5 : Wd → Int64 → Int32 → Option (Int64 × Wd)) (rc17 : Wd → Int64 → Int32 → Int32 → Option (Int64 × Wd)) (hrc5 : ∀ (w : Wd) (y3 : Int64) (y5 : Int32), Gm l E cX4_foldDebts 7 RX4 (some .long) (rmk (3)) eL (rc5 w y3 y5) w 5 [some (.ref (E.1 n 0)), none, none, some (.long (y3)), none, some (.int (y5)), none] []) (hrc17 : ∀ (w : Wd) (y3 : Int64) (y5 : Int32) (y6 : Int32), Gm l E cX4_foldDebts 7 RX4 (some .long) (rmk (3)) eL (rc17 w y3 y5 y6) w 17 [some (.ref (E.1 n 0)), none, none, some (.long (y3)), none, some (.int (y5)), some (.int (y6))] []) (w : Wd) (y3 : Int64) (y5 : Int32) (y6 : Int32) : Gm l E cX4_foldDebts 7 RX4 (some .long) (rmk (3)) eL (b_X4_foldDebts_17 n  rc5 rc17 w y3 y5 y6) w 17 [some (.ref (E.1 n 0)), none, none, some (.long (y3)), none, some (.int (y5)), some (.int (y6))] [] := by
  unfold b_X4_foldDebts_17
  refine gm_iload dX4_foldDebts_17 rfl ?_
  refine gm_aload_n dX4_foldDebts_19 rfl rfl ?_
  refine gm_get dX4_foldDebts_20 (ce_n_0 (n := n) hn) rfl inX4 5 (by decide) tb_157 rfl rfl ?_
  refine gm_icmp_ge (tgt := 48) dX4_foldDebts_23 (by decide) ?_ ?_
  · refine gm_iinc (v := 1) (lv' := [some (.ref (E.1 n 0)), none, none, some (.long (y3)), none, some (.int (y5 + 1)), some (.int (y6))]) dX4_foldDebts_48 rfl (by decide) (by decide) rfl rfl ?_
    refine gm_goto (tgt := 5) dX4_foldDebts_51 (by decide) ?_
    exact gm_weak (lsub_s (lsub_n (lsub_n (lsub_s (lsub_n (lsub_s (lsub_n lsub_0))))))) (hrc5 w y3 (y5 + 1))
  · refine gm_ldc2 (v := 31) dX4_foldDebts_26 tb_936 ?_
    refine gm_lload_n dX4_foldDebts_29 rfl rfl ?_
    refine gm_lmul dX4_foldDebts_30 ?_
    refine gm_aload_n dX4_foldDebts_31 rfl rfl ?_
    refine gm_iload dX4_foldDebts_32 rfl ?_
    refine gm_iload dX4_foldDebts_34 rfl ?_
    refine gm_callVi (As := [.int (y5), .int (y6)]) dX4_foldDebts_36 (t_X4_debt n hn w y5 y6) (ce_n_0 (n := n) hn) rfl cy_X4_debt tb_937 rfl rfl (rm_ok (by decide) (by decide)) (Nat.le_of_ble_eq_true rfl) (fun q1 => ?_)
    refine gm_i2l dX4_foldDebts_39 ?_
    refine gm_ladd dX4_foldDebts_40 ?_
    refine gm_letl_st (fun u2 => ?_)
    refine gm_lstore_n (lv' := [some (.ref (E.1 n 0)), none, none, some (.long (u2)), none, some (.int (y5)), some (.int (y6))]) dX4_foldDebts_41 rfl (by decide) rfl rfl ?_
    refine gm_iinc (v := 1) (lv' := [some (.ref (E.1 n 0)), none, none, some (.long (u2)), none, some (.int (y5)), some (.int (y6 + 1))]) dX4_foldDebts_42 rfl (by decide) (by decide) rfl rfl ?_
    refine gm_goto (tgt := 17) dX4_foldDebts_45 (by decide) ?_
    exact gm_weak (lsub_s (lsub_n (lsub_n (lsub_s (lsub_n (lsub_s (lsub_s lsub_0))))))) (hrc17 q1.2 u2 y5 (y6 + 1))
noncomputable def h_X4_foldDebts_17 (n : Nat) (rc5 : Wd → Int64 → Int32 → Option (Int64 × Wd)) : Nat → (Wd → Int64 → Int32 → Int32 → Option (Int64 × Wd))
  | 0 => fun _ _ _ _ => none
  | fu + 1 => b_X4_foldDebts_17 n  rc5 (h_X4_foldDebts_17 n  rc5 fu)
set_option maxRecDepth 100000 in
set_option maxHeartbeats 4000000 in
theorem k_X4_foldDebts_17 {l : Launch} {E : En} (n : Nat) (hn : n < 7) (rc5 : Wd → Int64 → Int32 → Option (Int64 × Wd)) (hrc5 : ∀ (w : Wd) (y3 : Int64) (y5 : Int32), Gm l E cX4_foldDebts 7 RX4 (some .long) (rmk (3)) eL (rc5 w y3 y5) w 5 [some (.ref (E.1 n 0)), none, none, some (.long (y3)), none, some (.int (y5)), none] []) : ∀ (fu : Nat) (w : Wd) (y3 : Int64) (y5 : Int32) (y6 : Int32), Gm l E cX4_foldDebts 7 RX4 (some .long) (rmk (3)) eL (h_X4_foldDebts_17 n  rc5 fu w y3 y5 y6) w 17 [some (.ref (E.1 n 0)), none, none, some (.long (y3)), none, some (.int (y5)), some (.int (y6))] []
  | 0, _, _, _, _ => gm_none
  | fu + 1, w, y3, y5, y6 => kb_X4_foldDebts_17 n hn  rc5 (h_X4_foldDebts_17 n  rc5 fu) hrc5 (fun w y3 y5 y6 => k_X4_foldDebts_17 n hn  rc5 hrc5 fu w y3 y5 y6) w y3 y5 y6
noncomputable def b_X4_foldDebts_5 (n : Nat) (rc5 : Wd → Int64 → Int32 → Option (Int64 × Wd)) (w : Wd) (y3 : Int64) (y5 : Int32) : Option (Int64 × Wd) :=
  if (w n 0 5) ≤ y5 then
    some (y3, w)
  else
    h_X4_foldDebts_17 n rc5 FU w y3 y5 0
set_option maxRecDepth 100000 in
set_option maxHeartbeats 4000000 in
theorem kb_X4_foldDebts_5 {l : Launch} {E : En} (n : Nat) (hn : n < 7) (rc5 : Wd → Int64 → Int32 → Option (Int64 × Wd)) (hrc5 : ∀ (w : Wd) (y3 : Int64) (y5 : Int32), Gm l E cX4_foldDebts 7 RX4 (some .long) (rmk (3)) eL (rc5 w y3 y5) w 5 [some (.ref (E.1 n 0)), none, none, some (.long (y3)), none, some (.int (y5)), none] []) (w : Wd) (y3 : Int64) (y5 : Int32) : Gm l E cX4_foldDebts 7 RX4 (some .long) (rmk (3)) eL (b_X4_foldDebts_5 n  rc5 w y3 y5) w 5 [some (.ref (E.1 n 0)), none, none, some (.long (y3)), none, some (.int (y5)), none] [] := by
  unfold b_X4_foldDebts_5
  refine gm_iload dX4_foldDebts_5 rfl ?_
  refine gm_aload_n dX4_foldDebts_7 rfl rfl ?_
  refine gm_get dX4_foldDebts_8 (ce_n_0 (n := n) hn) rfl inX4 5 (by decide) tb_157 rfl rfl ?_
  refine gm_icmp_ge (tgt := 54) dX4_foldDebts_11 (by decide) ?_ ?_
  · refine gm_lload_n dX4_foldDebts_54 rfl rfl ?_
    exact gm_lret dX4_foldDebts_55
  · refine gm_iconst (v := 0) dX4_foldDebts_14 (by decide) ?_
    refine gm_istore (lv' := [some (.ref (E.1 n 0)), none, none, some (.long (y3)), none, some (.int (y5)), some (.int (0))]) dX4_foldDebts_15 (by decide) rfl rfl ?_
    exact gm_weak (lsub_s (lsub_n (lsub_n (lsub_s (lsub_n (lsub_s (lsub_s lsub_0))))))) (k_X4_foldDebts_17 n hn rc5 hrc5 FU w y3 y5 0)
noncomputable def h_X4_foldDebts_5 (n : Nat) : Nat → (Wd → Int64 → Int32 → Option (Int64 × Wd))
  | 0 => fun _ _ _ => none
  | fu + 1 => b_X4_foldDebts_5 n   (h_X4_foldDebts_5 n   fu)
set_option maxRecDepth 100000 in
set_option maxHeartbeats 4000000 in
theorem k_X4_foldDebts_5 {l : Launch} {E : En} (n : Nat) (hn : n < 7) : ∀ (fu : Nat) (w : Wd) (y3 : Int64) (y5 : Int32), Gm l E cX4_foldDebts 7 RX4 (some .long) (rmk (3)) eL (h_X4_foldDebts_5 n   fu w y3 y5) w 5 [some (.ref (E.1 n 0)), none, none, some (.long (y3)), none, some (.int (y5)), none] []
  | 0, _, _, _ => gm_none
  | fu + 1, w, y3, y5 => kb_X4_foldDebts_5 n hn   (h_X4_foldDebts_5 n   fu)  (fun w y3 y5 => k_X4_foldDebts_5 n hn    fu w y3 y5) w y3 y5
noncomputable def f_X4_foldDebts (n : Nat) (w : Wd) (x1 : Int64) : Option (Int64 × Wd) :=
  h_X4_foldDebts_5 n FU w x1 0
set_option maxRecDepth 100000 in
set_option maxHeartbeats 4000000 in
theorem t_X4_foldDebts {l : Launch} {E : En} (n : Nat) (hn : n < 7) (w : Wd) (x1 : Int64) : ∀ q, f_X4_foldDebts  n w x1 = some q → Mt l E yX4_foldDebts cX4_foldDebts 7 (some .long) (rmk 3) [.ref (E.1 n 0), .long (x1)] w (eL q.1) q.2 := by
  refine Mt.of [some (.ref (E.1 n 0)), some (.long (x1)), none, none, none, none, none] (plainFor_of_name pn_X4) rfl (Nat.le_of_ble_eq_true rfl) rfl ?_
  unfold f_X4_foldDebts
  refine gm_lload_n dX4_foldDebts_0 rfl rfl ?_
  refine gm_lstore_n (lv' := [some (.ref (E.1 n 0)), some (.long (x1)), none, some (.long (x1)), none, none, none]) dX4_foldDebts_1 rfl (by decide) rfl rfl ?_
  refine gm_iconst (v := 0) dX4_foldDebts_2 (by decide) ?_
  refine gm_istore (lv' := [some (.ref (E.1 n 0)), some (.long (x1)), none, some (.long (x1)), none, some (.int (0)), none]) dX4_foldDebts_3 (by decide) rfl rfl ?_
  exact gm_weak (lsub_s (lsub_n (lsub_n (lsub_s (lsub_n (lsub_s (lsub_n lsub_0))))))) (k_X4_foldDebts_5 n hn FU w x1 0)

noncomputable def f_X4_letPass (n : Nat) (w : Wd) (x1 : Int32) : Option (Int32 × Wd) :=
  letw (wup w n 0 8 ((w n 0 8) + x1)) fun w1 =>
  some (w1 n 0 8, w1)
set_option maxRecDepth 100000 in
set_option maxHeartbeats 4000000 in
theorem t_X4_letPass {l : Launch} {E : En} (n : Nat) (hn : n < 7) (w : Wd) (x1 : Int32) : ∀ q, f_X4_letPass  n w x1 = some q → Mt l E yX4_letPass cX4_letPass 2 (some .int) (rmk 1) [.ref (E.1 n 0), .int (x1)] w (eI q.1) q.2 := by
  refine Mt.of [some (.ref (E.1 n 0)), some (.int (x1))] (plainFor_of_name pn_X4) rfl (Nat.le_of_ble_eq_true rfl) rfl ?_
  unfold f_X4_letPass
  refine gm_aload_n dX4_letPass_0 rfl rfl ?_
  refine gm_dup dX4_letPass_1 rfl ?_
  refine gm_get dX4_letPass_2 (ce_n_0 (n := n) hn) rfl inX4 8 (by decide) tb_160 rfl rfl ?_
  refine gm_iload_n dX4_letPass_5 rfl rfl ?_
  refine gm_iadd dX4_letPass_6 ?_
  refine gm_put dX4_letPass_7 (ce_n_0 (n := n) hn) rfl inX4 tyX4 tyX4_ok nmX4 8 (by decide) tb_160 rfl rfl (by decide +kernel) (fun _ => rfl) (fun _ => rfl) (fun w1 => ?_)
  refine gm_aload_n dX4_letPass_10 rfl rfl ?_
  refine gm_get dX4_letPass_11 (ce_n_0 (n := n) hn) rfl inX4 8 (by decide) tb_160 rfl rfl ?_
  exact gm_iret dX4_letPass_14

noncomputable def j_X4_portRefusal_35 (n : Nat) (w : Wd) (z0 : Int32) : Option (Int32 × Wd) :=
  if z0 = 0 then
    some (0, w)
  else
    if (p_X5_size n w) < 30 then
      some (0, w)
    else
      some ((-3), w)
set_option maxRecDepth 100000 in
set_option maxHeartbeats 4000000 in
theorem k_X4_portRefusal_35 {l : Launch} {E : En} (n : Nat) (hn : n < 7) (w : Wd) (z0 : Int32) : Gm l E cX4_portRefusal 4 RX4 (some .int) (rmk (3)) eI (j_X4_portRefusal_35 n   w z0) w 35 [some (.ref (E.1 n 0)), none, none, none] [.int (z0)] := by
  unfold j_X4_portRefusal_35
  refine gm_istore_n (lv' := [some (.ref (E.1 n 0)), none, none, some (.int (z0))]) dX4_portRefusal_35 rfl (by decide) rfl rfl ?_
  refine gm_iload_n dX4_portRefusal_36 rfl rfl ?_
  refine gm_if_eq (tgt := 57) dX4_portRefusal_37 (by decide) ?_ ?_
  · refine gm_iconst (v := 0) dX4_portRefusal_57 (by decide) ?_
    exact gm_iret dX4_portRefusal_58
  · refine gm_aload_n dX4_portRefusal_40 rfl rfl ?_
    refine gm_get dX4_portRefusal_41 (ce_n_0 (n := n) hn) rfl inX4 3 (by decide) tb_155 rfl rfl ?_
    refine gm_callVk (As := []) dX4_portRefusal_44 (tk_X5_size n hn w) (ce_n_10 (n := n) hn) rfl cy_X5_size tb_454 rfl rfl (rm_ok (by decide) (by decide)) (Nat.le_of_ble_eq_true rfl) ?_
    refine gm_bipush (v := 30) dX4_portRefusal_47 (by decide) ?_
    refine gm_icmp_lt (tgt := 57) dX4_portRefusal_49 (by decide) ?_ ?_
    · refine gm_iconst (v := 0) dX4_portRefusal_57 (by decide) ?_
      exact gm_iret dX4_portRefusal_58
    · refine gm_bipush (v := (-3)) dX4_portRefusal_52 (by decide) ?_
      refine gm_goto (tgt := 58) dX4_portRefusal_54 (by decide) ?_
      exact gm_iret dX4_portRefusal_58
noncomputable def f_X4_portRefusal (n : Nat) (w : Wd) (x1 : Int32) (x2 : Int32) : Option (Int32 × Wd) :=
  if (p_X4_hasSwitch n w x2) = 0 then
    some ((-1), w)
  else
    (f_X9_isNumber w x1).bind fun q1 =>
    if q1.1 = 0 then
      some ((-1), q1.2)
    else
      (f_X5_switchOf n q1.2 x1).bind fun q2 =>
      if q2.1 = (-9) then
        j_X4_portRefusal_35 n q2.2 1
      else
        j_X4_portRefusal_35 n q2.2 0
set_option maxRecDepth 100000 in
set_option maxHeartbeats 4000000 in
theorem t_X4_portRefusal {l : Launch} {E : En} (n : Nat) (hn : n < 7) (w : Wd) (x1 : Int32) (x2 : Int32) : ∀ q, f_X4_portRefusal  n w x1 x2 = some q → Mt l E yX4_portRefusal cX4_portRefusal 4 (some .int) (rmk 3) [.ref (E.1 n 0), .int (x1), .int (x2)] w (eI q.1) q.2 := by
  refine Mt.of [some (.ref (E.1 n 0)), some (.int (x1)), some (.int (x2)), none] (plainFor_of_name pn_X4) rfl (Nat.le_of_ble_eq_true rfl) rfl ?_
  unfold f_X4_portRefusal
  refine gm_aload_n dX4_portRefusal_0 rfl rfl ?_
  refine gm_iload_n dX4_portRefusal_1 rfl rfl ?_
  refine gm_callVk (As := [.int (x2)]) dX4_portRefusal_2 (tk_X4_hasSwitch n hn w x2) (ce_n_0 (n := n) hn) rfl cy_X4_hasSwitch tb_374 rfl rfl (rm_ok (by decide) (by decide)) (Nat.le_of_ble_eq_true rfl) ?_
  refine gm_if_eq (tgt := 15) dX4_portRefusal_5 (by decide) ?_ ?_
  · refine gm_iconst (v := (-1)) dX4_portRefusal_15 (by decide) ?_
    exact gm_iret dX4_portRefusal_16
  · refine gm_iload_n dX4_portRefusal_8 rfl rfl ?_
    refine gm_callNi (As := [.int (x1)]) dX4_portRefusal_9 (t_X9_isNumber w x1) cy_X9_isNumber tb_442 rfl rfl (rm_ok (by decide) (by decide)) (Nat.le_of_ble_eq_true rfl) (fun q1 => ?_)
    refine gm_if_ne (tgt := 17) dX4_portRefusal_12 (by decide) ?_ ?_
    · refine gm_aload_n dX4_portRefusal_17 rfl rfl ?_
      refine gm_get dX4_portRefusal_18 (ce_n_0 (n := n) hn) rfl inX4 3 (by decide) tb_155 rfl rfl ?_
      refine gm_iload_n dX4_portRefusal_21 rfl rfl ?_
      refine gm_callVi (As := [.int (x1)]) dX4_portRefusal_22 (t_X5_switchOf n hn q1.2 x1) (ce_n_10 (n := n) hn) rfl cy_X5_switchOf tb_446 rfl rfl (rm_ok (by decide) (by decide)) (Nat.le_of_ble_eq_true rfl) (fun q2 => ?_)
      refine gm_bipush (v := (-9)) dX4_portRefusal_25 (by decide) ?_
      refine gm_icmp_ne (tgt := 34) dX4_portRefusal_27 (by decide) ?_ ?_
      · refine gm_iconst (v := 0) dX4_portRefusal_34 (by decide) ?_
        exact gm_weak (lsub_s (lsub_n (lsub_n (lsub_n lsub_0)))) (k_X4_portRefusal_35 n hn q2.2 0)
      · refine gm_iconst (v := 1) dX4_portRefusal_30 (by decide) ?_
        refine gm_goto (tgt := 35) dX4_portRefusal_31 (by decide) ?_
        exact gm_weak (lsub_s (lsub_n (lsub_n (lsub_n lsub_0)))) (k_X4_portRefusal_35 n hn q2.2 1)
    · refine gm_iconst (v := (-1)) dX4_portRefusal_15 (by decide) ?_
      exact gm_iret dX4_portRefusal_16

noncomputable def f_X4_putSwitch (n : Nat) (w : Wd) : Option (Int32 × Wd) :=
  leti (w n 0 5) fun u1 =>
  if u1 < 8 then
    if ib u1 8 = true then
    letw (wup w n 1 (Int32.toNatClampNeg u1) 30) fun w2 =>
    letw (wup w2 n 0 5 (u1 + 1)) fun w3 =>
    some (u1, w3)
    else none
  else
    some ((-3), w)
set_option maxRecDepth 100000 in
set_option maxHeartbeats 4000000 in
theorem t_X4_putSwitch {l : Launch} {E : En} (n : Nat) (hn : n < 7) (w : Wd) : ∀ q, f_X4_putSwitch  n w  = some q → Mt l E yX4_putSwitch cX4_putSwitch 2 (some .int) (rmk 1) [.ref (E.1 n 0)] w (eI q.1) q.2 := by
  refine Mt.of [some (.ref (E.1 n 0)), none] (plainFor_of_name pn_X4) rfl (Nat.le_of_ble_eq_true rfl) rfl ?_
  unfold f_X4_putSwitch
  refine gm_aload_n dX4_putSwitch_0 rfl rfl ?_
  refine gm_get dX4_putSwitch_1 (ce_n_0 (n := n) hn) rfl inX4 5 (by decide) tb_157 rfl rfl ?_
  refine gm_leti_st (fun u1 => ?_)
  refine gm_istore_n (lv' := [some (.ref (E.1 n 0)), some (.int (u1))]) dX4_putSwitch_4 rfl (by decide) rfl rfl ?_
  refine gm_iload_n dX4_putSwitch_5 rfl rfl ?_
  refine gm_bipush (v := 8) dX4_putSwitch_6 (by decide) ?_
  refine gm_icmp_lt (tgt := 14) dX4_putSwitch_8 (by decide) ?_ ?_
  · refine gm_aload_n dX4_putSwitch_14 rfl rfl ?_
    refine gm_get dX4_putSwitch_15 (ce_n_0 (n := n) hn) rfl inX4 0 (by decide) tb_152 rfl rfl ?_
    refine gm_iload_n dX4_putSwitch_18 rfl rfl ?_
    refine gm_bipush (v := 30) dX4_putSwitch_19 (by decide) ?_
    refine gm_iast dX4_putSwitch_21 (ce_n_1 (n := n) hn) (fun w2 => ?_)
    refine gm_aload_n dX4_putSwitch_22 rfl rfl ?_
    refine gm_iload_n dX4_putSwitch_23 rfl rfl ?_
    refine gm_iconst (v := 1) dX4_putSwitch_24 (by decide) ?_
    refine gm_iadd dX4_putSwitch_25 ?_
    refine gm_put dX4_putSwitch_26 (ce_n_0 (n := n) hn) rfl inX4 tyX4 tyX4_ok nmX4 5 (by decide) tb_157 rfl rfl (by decide +kernel) (fun _ => rfl) (fun _ => rfl) (fun w3 => ?_)
    refine gm_iload_n dX4_putSwitch_29 rfl rfl ?_
    exact gm_iret dX4_putSwitch_30
  · refine gm_bipush (v := (-3)) dX4_putSwitch_11 (by decide) ?_
    exact gm_iret dX4_putSwitch_13

noncomputable def f_X4_routeRefusal (n : Nat) (w : Wd) (x1 : Int32) (x2 : Int32) (x3 : Int32) (x4 : Int32) (x5 : Int32) : Option (Int32 × Wd) :=
  if (p_X4_hasSwitch n w x1) = 0 then
    some ((-1), w)
  else
    if (p_X9_inRange w x2 0 999999999) = 0 then
      some ((-1), w)
    else
      if (p_X4_hasSwitch n w x3) = 0 then
        some ((-1), w)
      else
        if (p_X9_inRange w x4 0 1000) = 0 then
          some ((-1), w)
        else
          if (p_X9_inRange w x5 1 20) = 0 then
            some ((-1), w)
          else
            if (p_X6_size n w) < 40 then
              some (0, w)
            else
              some ((-3), w)
set_option maxRecDepth 100000 in
set_option maxHeartbeats 4000000 in
theorem t_X4_routeRefusal {l : Launch} {E : En} (n : Nat) (hn : n < 7) (w : Wd) (x1 : Int32) (x2 : Int32) (x3 : Int32) (x4 : Int32) (x5 : Int32) : ∀ q, f_X4_routeRefusal  n w x1 x2 x3 x4 x5 = some q → Mt l E yX4_routeRefusal cX4_routeRefusal 6 (some .int) (rmk 2) [.ref (E.1 n 0), .int (x1), .int (x2), .int (x3), .int (x4), .int (x5)] w (eI q.1) q.2 := by
  refine Mt.of [some (.ref (E.1 n 0)), some (.int (x1)), some (.int (x2)), some (.int (x3)), some (.int (x4)), some (.int (x5))] (plainFor_of_name pn_X4) rfl (Nat.le_of_ble_eq_true rfl) rfl ?_
  unfold f_X4_routeRefusal
  refine gm_aload_n dX4_routeRefusal_0 rfl rfl ?_
  refine gm_iload_n dX4_routeRefusal_1 rfl rfl ?_
  refine gm_callVk (As := [.int (x1)]) dX4_routeRefusal_2 (tk_X4_hasSwitch n hn w x1) (ce_n_0 (n := n) hn) rfl cy_X4_hasSwitch tb_374 rfl rfl (rm_ok (by decide) (by decide)) (Nat.le_of_ble_eq_true rfl) ?_
  refine gm_if_eq (tgt := 49) dX4_routeRefusal_5 (by decide) ?_ ?_
  · refine gm_iconst (v := (-1)) dX4_routeRefusal_49 (by decide) ?_
    exact gm_iret dX4_routeRefusal_50
  · refine gm_iload_n dX4_routeRefusal_8 rfl rfl ?_
    refine gm_iconst (v := 0) dX4_routeRefusal_9 (by decide) ?_
    refine gm_ldc (v := 999999999) dX4_routeRefusal_10 tb_406 ?_
    refine gm_callNk (As := [.int (x2), .int (0), .int (999999999)]) dX4_routeRefusal_12 (tk_X9_inRange w x2 0 999999999) cy_X9_inRange tb_407 rfl rfl (rm_ok (by decide) (by decide)) (Nat.le_of_ble_eq_true rfl) ?_
    refine gm_if_eq (tgt := 49) dX4_routeRefusal_15 (by decide) ?_ ?_
    · refine gm_iconst (v := (-1)) dX4_routeRefusal_49 (by decide) ?_
      exact gm_iret dX4_routeRefusal_50
    · refine gm_aload_n dX4_routeRefusal_18 rfl rfl ?_
      refine gm_iload_n dX4_routeRefusal_19 rfl rfl ?_
      refine gm_callVk (As := [.int (x3)]) dX4_routeRefusal_20 (tk_X4_hasSwitch n hn w x3) (ce_n_0 (n := n) hn) rfl cy_X4_hasSwitch tb_374 rfl rfl (rm_ok (by decide) (by decide)) (Nat.le_of_ble_eq_true rfl) ?_
      refine gm_if_eq (tgt := 49) dX4_routeRefusal_23 (by decide) ?_ ?_
      · refine gm_iconst (v := (-1)) dX4_routeRefusal_49 (by decide) ?_
        exact gm_iret dX4_routeRefusal_50
      · refine gm_iload dX4_routeRefusal_26 rfl ?_
        refine gm_iconst (v := 0) dX4_routeRefusal_28 (by decide) ?_
        refine gm_sipush (v := 1000) dX4_routeRefusal_29 (by decide) ?_
        refine gm_callNk (As := [.int (x4), .int (0), .int (1000)]) dX4_routeRefusal_32 (tk_X9_inRange w x4 0 1000) cy_X9_inRange tb_407 rfl rfl (rm_ok (by decide) (by decide)) (Nat.le_of_ble_eq_true rfl) ?_
        refine gm_if_eq (tgt := 49) dX4_routeRefusal_35 (by decide) ?_ ?_
        · refine gm_iconst (v := (-1)) dX4_routeRefusal_49 (by decide) ?_
          exact gm_iret dX4_routeRefusal_50
        · refine gm_iload dX4_routeRefusal_38 rfl ?_
          refine gm_iconst (v := 1) dX4_routeRefusal_40 (by decide) ?_
          refine gm_bipush (v := 20) dX4_routeRefusal_41 (by decide) ?_
          refine gm_callNk (As := [.int (x5), .int (1), .int (20)]) dX4_routeRefusal_43 (tk_X9_inRange w x5 1 20) cy_X9_inRange tb_407 rfl rfl (rm_ok (by decide) (by decide)) (Nat.le_of_ble_eq_true rfl) ?_
          refine gm_if_ne (tgt := 51) dX4_routeRefusal_46 (by decide) ?_ ?_
          · refine gm_aload_n dX4_routeRefusal_51 rfl rfl ?_
            refine gm_get dX4_routeRefusal_52 (ce_n_0 (n := n) hn) rfl inX4 2 (by decide) tb_154 rfl rfl ?_
            refine gm_callVk (As := []) dX4_routeRefusal_55 (tk_X6_size n hn w) (ce_n_3 (n := n) hn) rfl cy_X6_size tb_408 rfl rfl (rm_ok (by decide) (by decide)) (Nat.le_of_ble_eq_true rfl) ?_
            refine gm_bipush (v := 40) dX4_routeRefusal_58 (by decide) ?_
            refine gm_icmp_lt (tgt := 68) dX4_routeRefusal_60 (by decide) ?_ ?_
            · refine gm_iconst (v := 0) dX4_routeRefusal_68 (by decide) ?_
              exact gm_iret dX4_routeRefusal_69
            · refine gm_bipush (v := (-3)) dX4_routeRefusal_63 (by decide) ?_
              refine gm_goto (tgt := 69) dX4_routeRefusal_65 (by decide) ?_
              exact gm_iret dX4_routeRefusal_69
          · refine gm_iconst (v := (-1)) dX4_routeRefusal_49 (by decide) ?_
            exact gm_iret dX4_routeRefusal_50
noncomputable def p_X4_routeRefusal (n : Nat) (w : Wd) (x1 : Int32) (x2 : Int32) (x3 : Int32) (x4 : Int32) (x5 : Int32) : Int32 :=
  if (p_X4_hasSwitch n w x1) = 0 then
    (-1)
  else
    if (p_X9_inRange w x2 0 999999999) = 0 then
      (-1)
    else
      if (p_X4_hasSwitch n w x3) = 0 then
        (-1)
      else
        if (p_X9_inRange w x4 0 1000) = 0 then
          (-1)
        else
          if (p_X9_inRange w x5 1 20) = 0 then
            (-1)
          else
            if (p_X6_size n w) < 40 then
              0
            else
              (-3)
theorem fp_X4_routeRefusal (n : Nat) (w : Wd) (x1 : Int32) (x2 : Int32) (x3 : Int32) (x4 : Int32) (x5 : Int32) : f_X4_routeRefusal n w x1 x2 x3 x4 x5 = some (p_X4_routeRefusal n w x1 x2 x3 x4 x5, w) := by
  unfold f_X4_routeRefusal p_X4_routeRefusal
  (try simp only [leti, letl])
  repeat' (first | rfl | split)
theorem tk_X4_routeRefusal {l : Launch} {E : En} (n : Nat) (hn : n < 7) (w : Wd) (x1 : Int32) (x2 : Int32) (x3 : Int32) (x4 : Int32) (x5 : Int32) : Mt l E yX4_routeRefusal cX4_routeRefusal 6 (some .int) (rmk 2) [.ref (E.1 n 0), .int (x1), .int (x2), .int (x3), .int (x4), .int (x5)] w (some (.int (p_X4_routeRefusal n w x1 x2 x3 x4 x5))) w := t_X4_routeRefusal n hn w x1 x2 x3 x4 x5 _ (fp_X4_routeRefusal n w x1 x2 x3 x4 x5)

noncomputable def f_X4_settleStep (n : Nat) (w : Wd) (x1 : Int32) (x2 : Int32) (x3 : Int32) : Option (Int32 × Wd) :=
  (f_X6_serves n w x1).bind fun q1 =>
  if q1.1 = 0 then
    (f_X6_costOf n q1.2 x1 x2).bind fun q2 =>
    leti (q2.1 * x3) fun u3 =>
    (f_X6_release n q2.2 x1).bind fun q4 =>
    (f_X6_switchOf n q4.2 x1).bind fun q5 =>
    (f_X6_nextOf n q5.2 x1).bind fun q6 =>
    (f_X4_addDebt n q6.2 q5.1 q6.1 u3).bind fun q7 =>
    some (u3, q7.2)
  else
    some (0, q1.2)
set_option maxRecDepth 100000 in
set_option maxHeartbeats 4000000 in
theorem t_X4_settleStep {l : Launch} {E : En} (n : Nat) (hn : n < 7) (w : Wd) (x1 : Int32) (x2 : Int32) (x3 : Int32) : ∀ q, f_X4_settleStep  n w x1 x2 x3 = some q → Mt l E yX4_settleStep cX4_settleStep 5 (some .int) (rmk 4) [.ref (E.1 n 0), .int (x1), .int (x2), .int (x3)] w (eI q.1) q.2 := by
  refine Mt.of [some (.ref (E.1 n 0)), some (.int (x1)), some (.int (x2)), some (.int (x3)), none] (plainFor_of_name pn_X4) rfl (Nat.le_of_ble_eq_true rfl) rfl ?_
  unfold f_X4_settleStep
  refine gm_aload_n dX4_settleStep_0 rfl rfl ?_
  refine gm_get dX4_settleStep_1 (ce_n_0 (n := n) hn) rfl inX4 2 (by decide) tb_154 rfl rfl ?_
  refine gm_iload_n dX4_settleStep_4 rfl rfl ?_
  refine gm_callVi (As := [.int (x1)]) dX4_settleStep_5 (t_X6_serves n hn w x1) (ce_n_3 (n := n) hn) rfl cy_X6_serves tb_661 rfl rfl (rm_ok (by decide) (by decide)) (Nat.le_of_ble_eq_true rfl) (fun q1 => ?_)
  refine gm_if_eq (tgt := 13) dX4_settleStep_8 (by decide) ?_ ?_
  · refine gm_aload_n dX4_settleStep_13 rfl rfl ?_
    refine gm_get dX4_settleStep_14 (ce_n_0 (n := n) hn) rfl inX4 2 (by decide) tb_154 rfl rfl ?_
    refine gm_iload_n dX4_settleStep_17 rfl rfl ?_
    refine gm_iload_n dX4_settleStep_18 rfl rfl ?_
    refine gm_callVi (As := [.int (x1), .int (x2)]) dX4_settleStep_19 (t_X6_costOf n hn q1.2 x1 x2) (ce_n_3 (n := n) hn) rfl cy_X6_costOf tb_662 rfl rfl (rm_ok (by decide) (by decide)) (Nat.le_of_ble_eq_true rfl) (fun q2 => ?_)
    refine gm_iload_n dX4_settleStep_22 rfl rfl ?_
    refine gm_imul dX4_settleStep_23 ?_
    refine gm_leti_st (fun u3 => ?_)
    refine gm_istore (lv' := [some (.ref (E.1 n 0)), some (.int (x1)), some (.int (x2)), some (.int (x3)), some (.int (u3))]) dX4_settleStep_24 (by decide) rfl rfl ?_
    refine gm_aload_n dX4_settleStep_26 rfl rfl ?_
    refine gm_get dX4_settleStep_27 (ce_n_0 (n := n) hn) rfl inX4 2 (by decide) tb_154 rfl rfl ?_
    refine gm_iload_n dX4_settleStep_30 rfl rfl ?_
    refine gm_callVv (As := [.int (x1)]) dX4_settleStep_31 (t_X6_release n hn q2.2 x1) (ce_n_3 (n := n) hn) rfl cy_X6_release tb_663 rfl rfl (rm_ok (by decide) (by decide)) (Nat.le_of_ble_eq_true rfl) (fun q4 => ?_)
    refine gm_aload_n dX4_settleStep_34 rfl rfl ?_
    refine gm_aload_n dX4_settleStep_35 rfl rfl ?_
    refine gm_get dX4_settleStep_36 (ce_n_0 (n := n) hn) rfl inX4 2 (by decide) tb_154 rfl rfl ?_
    refine gm_iload_n dX4_settleStep_39 rfl rfl ?_
    refine gm_callVi (As := [.int (x1)]) dX4_settleStep_40 (t_X6_switchOf n hn q4.2 x1) (ce_n_3 (n := n) hn) rfl cy_X6_switchOf tb_667 rfl rfl (rm_ok (by decide) (by decide)) (Nat.le_of_ble_eq_true rfl) (fun q5 => ?_)
    refine gm_aload_n dX4_settleStep_43 rfl rfl ?_
    refine gm_get dX4_settleStep_44 (ce_n_0 (n := n) hn) rfl inX4 2 (by decide) tb_154 rfl rfl ?_
    refine gm_iload_n dX4_settleStep_47 rfl rfl ?_
    refine gm_callVi (As := [.int (x1)]) dX4_settleStep_48 (t_X6_nextOf n hn q5.2 x1) (ce_n_3 (n := n) hn) rfl cy_X6_nextOf tb_668 rfl rfl (rm_ok (by decide) (by decide)) (Nat.le_of_ble_eq_true rfl) (fun q6 => ?_)
    refine gm_iload dX4_settleStep_51 rfl ?_
    refine gm_callVv (As := [.int (q5.1), .int (q6.1), .int (u3)]) dX4_settleStep_53 (t_X4_addDebt n hn q6.2 q5.1 q6.1 u3) (ce_n_0 (n := n) hn) rfl cy_X4_addDebt tb_669 rfl rfl (rm_ok (by decide) (by decide)) (Nat.le_of_ble_eq_true rfl) (fun q7 => ?_)
    refine gm_iload dX4_settleStep_56 rfl ?_
    exact gm_iret dX4_settleStep_58
  · refine gm_iconst (v := 0) dX4_settleStep_11 (by decide) ?_
    exact gm_iret dX4_settleStep_12

noncomputable def b_X4_settle_26 (n : Nat) (rc26 : Wd → Int32 → Int32 → Int32 → Int32 → Int32 → Option (Int32 × Wd)) (w : Wd) (y1 : Int32) (y2 : Int32) (y3 : Int32) (y4 : Int32) (y5 : Int32) : Option (Int32 × Wd) :=
  if 6 ≤ y5 then
    (f_X0_remove n w y1).bind fun q3 =>
    some (y4, q3.2)
  else
    (f_X0_length n w y1).bind fun q4 =>
    if q4.1 ≤ y5 then
      (f_X0_remove n q4.2 y1).bind fun q5 =>
      some (y4, q5.2)
    else
      (f_X0_step n q4.2 y1 y5).bind fun q6 =>
      (f_X9_bandOf q6.2 y2).bind fun q7 =>
      (f_X4_settleStep n q7.2 q6.1 q7.1 y3).bind fun q8 =>
      leti (y4 + q8.1) fun u9 =>
      rc26 q8.2 y1 y2 y3 u9 (y5 + 1)
set_option maxRecDepth 100000 in
set_option maxHeartbeats 4000000 in
theorem kb_X4_settle_26 {l : Launch} {E : En} (n : Nat) (hn : n < 7) (rc26 : Wd → Int32 → Int32 → Int32 → Int32 → Int32 → Option (Int32 × Wd)) (hrc26 : ∀ (w : Wd) (y1 : Int32) (y2 : Int32) (y3 : Int32) (y4 : Int32) (y5 : Int32), Gm l E cX4_settle 6 RX4 (some .int) (rmk (5)) eI (rc26 w y1 y2 y3 y4 y5) w 26 [some (.ref (E.1 n 0)), some (.int (y1)), some (.int (y2)), some (.int (y3)), some (.int (y4)), some (.int (y5))] []) (w : Wd) (y1 : Int32) (y2 : Int32) (y3 : Int32) (y4 : Int32) (y5 : Int32) : Gm l E cX4_settle 6 RX4 (some .int) (rmk (5)) eI (b_X4_settle_26 n  rc26 w y1 y2 y3 y4 y5) w 26 [some (.ref (E.1 n 0)), some (.int (y1)), some (.int (y2)), some (.int (y3)), some (.int (y4)), some (.int (y5))] [] := by
  unfold b_X4_settle_26
  refine gm_iload dX4_settle_26 rfl ?_
  refine gm_bipush (v := 6) dX4_settle_28 (by decide) ?_
  refine gm_icmp_ge (tgt := 76) dX4_settle_30 (by decide) ?_ ?_
  · refine gm_aload_n dX4_settle_76 rfl rfl ?_
    refine gm_get dX4_settle_77 (ce_n_0 (n := n) hn) rfl inX4 4 (by decide) tb_156 rfl rfl ?_
    refine gm_iload_n dX4_settle_80 rfl rfl ?_
    refine gm_callVv (As := [.int (y1)]) dX4_settle_81 (t_X0_remove n hn w y1) (ce_n_13 (n := n) hn) rfl cy_X0_remove tb_673 rfl rfl (rm_ok (by decide) (by decide)) (Nat.le_of_ble_eq_true rfl) (fun q3 => ?_)
    refine gm_iload dX4_settle_84 rfl ?_
    exact gm_iret dX4_settle_86
  · refine gm_iload dX4_settle_33 rfl ?_
    refine gm_aload_n dX4_settle_35 rfl rfl ?_
    refine gm_get dX4_settle_36 (ce_n_0 (n := n) hn) rfl inX4 4 (by decide) tb_156 rfl rfl ?_
    refine gm_iload_n dX4_settle_39 rfl rfl ?_
    refine gm_callVi (As := [.int (y1)]) dX4_settle_40 (t_X0_length n hn w y1) (ce_n_13 (n := n) hn) rfl cy_X0_length tb_647 rfl rfl (rm_ok (by decide) (by decide)) (Nat.le_of_ble_eq_true rfl) (fun q4 => ?_)
    refine gm_icmp_ge (tgt := 76) dX4_settle_43 (by decide) ?_ ?_
    · refine gm_aload_n dX4_settle_76 rfl rfl ?_
      refine gm_get dX4_settle_77 (ce_n_0 (n := n) hn) rfl inX4 4 (by decide) tb_156 rfl rfl ?_
      refine gm_iload_n dX4_settle_80 rfl rfl ?_
      refine gm_callVv (As := [.int (y1)]) dX4_settle_81 (t_X0_remove n hn q4.2 y1) (ce_n_13 (n := n) hn) rfl cy_X0_remove tb_673 rfl rfl (rm_ok (by decide) (by decide)) (Nat.le_of_ble_eq_true rfl) (fun q5 => ?_)
      refine gm_iload dX4_settle_84 rfl ?_
      exact gm_iret dX4_settle_86
    · refine gm_iload dX4_settle_46 rfl ?_
      refine gm_aload_n dX4_settle_48 rfl rfl ?_
      refine gm_aload_n dX4_settle_49 rfl rfl ?_
      refine gm_get dX4_settle_50 (ce_n_0 (n := n) hn) rfl inX4 4 (by decide) tb_156 rfl rfl ?_
      refine gm_iload_n dX4_settle_53 rfl rfl ?_
      refine gm_iload dX4_settle_54 rfl ?_
      refine gm_callVi (As := [.int (y1), .int (y5)]) dX4_settle_56 (t_X0_step n hn q4.2 y1 y5) (ce_n_13 (n := n) hn) rfl cy_X0_step tb_651 rfl rfl (rm_ok (by decide) (by decide)) (Nat.le_of_ble_eq_true rfl) (fun q6 => ?_)
      refine gm_iload_n dX4_settle_59 rfl rfl ?_
      refine gm_callNi (As := [.int (y2)]) dX4_settle_60 (t_X9_bandOf q6.2 y2) cy_X9_bandOf tb_656 rfl rfl (rm_ok (by decide) (by decide)) (Nat.le_of_ble_eq_true rfl) (fun q7 => ?_)
      refine gm_iload_n dX4_settle_63 rfl rfl ?_
      refine gm_callVi (As := [.int (q6.1), .int (q7.1), .int (y3)]) dX4_settle_64 (t_X4_settleStep n hn q7.2 q6.1 q7.1 y3) (ce_n_0 (n := n) hn) rfl cy_X4_settleStep tb_657 rfl rfl (rm_ok (by decide) (by decide)) (Nat.le_of_ble_eq_true rfl) (fun q8 => ?_)
      refine gm_iadd dX4_settle_67 ?_
      refine gm_leti_st (fun u9 => ?_)
      refine gm_istore (lv' := [some (.ref (E.1 n 0)), some (.int (y1)), some (.int (y2)), some (.int (y3)), some (.int (u9)), some (.int (y5))]) dX4_settle_68 (by decide) rfl rfl ?_
      refine gm_iinc (v := 1) (lv' := [some (.ref (E.1 n 0)), some (.int (y1)), some (.int (y2)), some (.int (y3)), some (.int (u9)), some (.int (y5 + 1))]) dX4_settle_70 rfl (by decide) (by decide) rfl rfl ?_
      refine gm_goto (tgt := 26) dX4_settle_73 (by decide) ?_
      exact gm_weak (lsub_s (lsub_s (lsub_s (lsub_s (lsub_s (lsub_s lsub_0)))))) (hrc26 q8.2 y1 y2 y3 u9 (y5 + 1))
noncomputable def h_X4_settle_26 (n : Nat) : Nat → (Wd → Int32 → Int32 → Int32 → Int32 → Int32 → Option (Int32 × Wd))
  | 0 => fun _ _ _ _ _ _ => none
  | fu + 1 => b_X4_settle_26 n   (h_X4_settle_26 n   fu)
set_option maxRecDepth 100000 in
set_option maxHeartbeats 4000000 in
theorem k_X4_settle_26 {l : Launch} {E : En} (n : Nat) (hn : n < 7) : ∀ (fu : Nat) (w : Wd) (y1 : Int32) (y2 : Int32) (y3 : Int32) (y4 : Int32) (y5 : Int32), Gm l E cX4_settle 6 RX4 (some .int) (rmk (5)) eI (h_X4_settle_26 n   fu w y1 y2 y3 y4 y5) w 26 [some (.ref (E.1 n 0)), some (.int (y1)), some (.int (y2)), some (.int (y3)), some (.int (y4)), some (.int (y5))] []
  | 0, _, _, _, _, _, _ => gm_none
  | fu + 1, w, y1, y2, y3, y4, y5 => kb_X4_settle_26 n hn   (h_X4_settle_26 n   fu)  (fun w y1 y2 y3 y4 y5 => k_X4_settle_26 n hn    fu w y1 y2 y3 y4 y5) w y1 y2 y3 y4 y5
noncomputable def f_X4_settle (n : Nat) (w : Wd) (x1 : Int32) : Option (Int32 × Wd) :=
  (f_X0_startOf n w x1).bind fun q1 =>
  leti (p_J9_max_7cf53 q1.2 1 (((q1.2) n 0 8) - q1.1)) fun u2 =>
  h_X4_settle_26 n FU q1.2 x1 q1.1 u2 0 0
set_option maxRecDepth 100000 in
set_option maxHeartbeats 4000000 in
theorem t_X4_settle {l : Launch} {E : En} (n : Nat) (hn : n < 7) (w : Wd) (x1 : Int32) : ∀ q, f_X4_settle  n w x1 = some q → Mt l E yX4_settle cX4_settle 6 (some .int) (rmk 5) [.ref (E.1 n 0), .int (x1)] w (eI q.1) q.2 := by
  refine Mt.of [some (.ref (E.1 n 0)), some (.int (x1)), none, none, none, none] (plainFor_of_name pn_X4) rfl (Nat.le_of_ble_eq_true rfl) rfl ?_
  unfold f_X4_settle
  refine gm_aload_n dX4_settle_0 rfl rfl ?_
  refine gm_get dX4_settle_1 (ce_n_0 (n := n) hn) rfl inX4 4 (by decide) tb_156 rfl rfl ?_
  refine gm_iload_n dX4_settle_4 rfl rfl ?_
  refine gm_callVi (As := [.int (x1)]) dX4_settle_5 (t_X0_startOf n hn w x1) (ce_n_13 (n := n) hn) rfl cy_X0_startOf tb_640 rfl rfl (rm_ok (by decide) (by decide)) (Nat.le_of_ble_eq_true rfl) (fun q1 => ?_)
  refine gm_istore_n (lv' := [some (.ref (E.1 n 0)), some (.int (x1)), some (.int (q1.1)), none, none, none]) dX4_settle_8 rfl (by decide) rfl rfl ?_
  refine gm_iconst (v := 1) dX4_settle_9 (by decide) ?_
  refine gm_aload_n dX4_settle_10 rfl rfl ?_
  refine gm_get dX4_settle_11 (ce_n_0 (n := n) hn) rfl inX4 8 (by decide) tb_160 rfl rfl ?_
  refine gm_iload_n dX4_settle_14 rfl rfl ?_
  refine gm_isub dX4_settle_15 ?_
  refine gm_callSk (As := [.int (1), .int (((q1.2) n 0 8) - q1.1)]) dX4_settle_16 (tk_J9_max_7cf53 q1.2 1 (((q1.2) n 0 8) - q1.1)) cy_J9_max_7cf53 tb_644 rfl rfl (rm_ok (by decide) (by decide)) (Nat.le_of_ble_eq_true rfl) ?_
  refine gm_leti_st (fun u2 => ?_)
  refine gm_istore_n (lv' := [some (.ref (E.1 n 0)), some (.int (x1)), some (.int (q1.1)), some (.int (u2)), none, none]) dX4_settle_19 rfl (by decide) rfl rfl ?_
  refine gm_iconst (v := 0) dX4_settle_20 (by decide) ?_
  refine gm_istore (lv' := [some (.ref (E.1 n 0)), some (.int (x1)), some (.int (q1.1)), some (.int (u2)), some (.int (0)), none]) dX4_settle_21 (by decide) rfl rfl ?_
  refine gm_iconst (v := 0) dX4_settle_23 (by decide) ?_
  refine gm_istore (lv' := [some (.ref (E.1 n 0)), some (.int (x1)), some (.int (q1.1)), some (.int (u2)), some (.int (0)), some (.int (0))]) dX4_settle_24 (by decide) rfl rfl ?_
  exact gm_weak (lsub_s (lsub_s (lsub_s (lsub_s (lsub_s (lsub_s lsub_0)))))) (k_X4_settle_26 n hn FU q1.2 x1 q1.1 u2 0 0)
