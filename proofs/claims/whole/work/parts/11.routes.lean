noncomputable def b_X6_longestPrefix_7 (n : Nat) (rc7 : Wd → Int32 → Int64 → Int32 → Int32 → Option (Int32 × Wd)) (w : Wd) (y1 : Int32) (y2 : Int64) (y4 : Int32) (y5 : Int32) : Option (Int32 × Wd) :=
  if (w n 3 6) ≤ y5 then
    some (y4, w)
  else
    if 40 ≤ y5 then
      some (y4, w)
    else
      if ib y5 40 = true then
      leti (w n 5 (Int32.toNatClampNeg y5)) fun u1 =>
      if ib y5 40 = true then
      if (w n 4 (Int32.toNatClampNeg y5)) = y1 then
        if u1 ≤ y4 then
          rc7 w y1 y2 y4 (y5 + 1)
        else
          (f_X9_beginsWith w y2 u1).bind fun q2 =>
          if q2.1 = 0 then
            rc7 q2.2 y1 y2 y4 (y5 + 1)
          else
            rc7 q2.2 y1 y2 u1 (y5 + 1)
      else
        rc7 w y1 y2 y4 (y5 + 1)
      else none
      else none
set_option maxRecDepth 100000 in
set_option maxHeartbeats 4000000 in
theorem kb_X6_longestPrefix_7 {l : Launch} {E : En} (n : Nat) (hn : n < 7) (rc7 : Wd → Int32 → Int64 → Int32 → Int32 → Option (Int32 × Wd)) (hrc7 : ∀ (w : Wd) (y1 : Int32) (y2 : Int64) (y4 : Int32) (y5 : Int32), Gm l E cX6_longestPrefix 7 RX6 (some .int) (rmk (2)) eI (rc7 w y1 y2 y4 y5) w 7 [some (.ref (E.1 n 3)), some (.int (y1)), some (.long (y2)), none, some (.int (y4)), some (.int (y5)), none] []) (w : Wd) (y1 : Int32) (y2 : Int64) (y4 : Int32) (y5 : Int32) : Gm l E cX6_longestPrefix 7 RX6 (some .int) (rmk (2)) eI (b_X6_longestPrefix_7 n  rc7 w y1 y2 y4 y5) w 7 [some (.ref (E.1 n 3)), some (.int (y1)), some (.long (y2)), none, some (.int (y4)), some (.int (y5)), none] [] := by
  unfold b_X6_longestPrefix_7
  refine gm_iload dX6_longestPrefix_7 rfl ?_
  refine gm_aload_n dX6_longestPrefix_9 rfl rfl ?_
  refine gm_get dX6_longestPrefix_10 (ce_n_3 (n := n) hn) rfl inX6 6 (by decide) tb_97 rfl rfl ?_
  refine gm_icmp_ge (tgt := 69) dX6_longestPrefix_13 (by decide) ?_ ?_
  · refine gm_iload dX6_longestPrefix_69 rfl ?_
    exact gm_iret dX6_longestPrefix_71
  · refine gm_iload dX6_longestPrefix_16 rfl ?_
    refine gm_bipush (v := 40) dX6_longestPrefix_18 (by decide) ?_
    refine gm_icmp_ge (tgt := 69) dX6_longestPrefix_20 (by decide) ?_ ?_
    · refine gm_iload dX6_longestPrefix_69 rfl ?_
      exact gm_iret dX6_longestPrefix_71
    · refine gm_aload_n dX6_longestPrefix_23 rfl rfl ?_
      refine gm_get dX6_longestPrefix_24 (ce_n_3 (n := n) hn) rfl inX6 1 (by decide) tb_92 rfl rfl ?_
      refine gm_iload dX6_longestPrefix_27 rfl ?_
      refine gm_iald dX6_longestPrefix_29 (ce_n_5 (n := n) hn) ?_
      refine gm_leti_st (fun u1 => ?_)
      refine gm_istore (lv' := [some (.ref (E.1 n 3)), some (.int (y1)), some (.long (y2)), none, some (.int (y4)), some (.int (y5)), some (.int (u1))]) dX6_longestPrefix_30 (by decide) rfl rfl ?_
      refine gm_aload_n dX6_longestPrefix_32 rfl rfl ?_
      refine gm_get dX6_longestPrefix_33 (ce_n_3 (n := n) hn) rfl inX6 0 (by decide) tb_91 rfl rfl ?_
      refine gm_iload dX6_longestPrefix_36 rfl ?_
      refine gm_iald dX6_longestPrefix_38 (ce_n_4 (n := n) hn) ?_
      refine gm_iload_n dX6_longestPrefix_39 rfl rfl ?_
      refine gm_icmp_ne (tgt := 63) dX6_longestPrefix_40 (by decide) ?_ ?_
      · refine gm_iinc (v := 1) (lv' := [some (.ref (E.1 n 3)), some (.int (y1)), some (.long (y2)), none, some (.int (y4)), some (.int (y5 + 1)), some (.int (u1))]) dX6_longestPrefix_63 rfl (by decide) (by decide) rfl rfl ?_
        refine gm_goto (tgt := 7) dX6_longestPrefix_66 (by decide) ?_
        exact gm_weak (lsub_s (lsub_s (lsub_s (lsub_n (lsub_s (lsub_s (lsub_n lsub_0))))))) (hrc7 w y1 y2 y4 (y5 + 1))
      · refine gm_iload dX6_longestPrefix_43 rfl ?_
        refine gm_iload dX6_longestPrefix_45 rfl ?_
        refine gm_icmp_le (tgt := 63) dX6_longestPrefix_47 (by decide) ?_ ?_
        · refine gm_iinc (v := 1) (lv' := [some (.ref (E.1 n 3)), some (.int (y1)), some (.long (y2)), none, some (.int (y4)), some (.int (y5 + 1)), some (.int (u1))]) dX6_longestPrefix_63 rfl (by decide) (by decide) rfl rfl ?_
          refine gm_goto (tgt := 7) dX6_longestPrefix_66 (by decide) ?_
          exact gm_weak (lsub_s (lsub_s (lsub_s (lsub_n (lsub_s (lsub_s (lsub_n lsub_0))))))) (hrc7 w y1 y2 y4 (y5 + 1))
        · refine gm_lload_n dX6_longestPrefix_50 rfl rfl ?_
          refine gm_iload dX6_longestPrefix_51 rfl ?_
          refine gm_callNi (As := [.long (y2), .int (u1)]) dX6_longestPrefix_53 (t_X9_beginsWith w y2 u1) cy_X9_beginsWith tb_542 rfl rfl (rm_ok (by decide) (by decide)) (Nat.le_of_ble_eq_true rfl) (fun q2 => ?_)
          refine gm_if_eq (tgt := 63) dX6_longestPrefix_56 (by decide) ?_ ?_
          · refine gm_iinc (v := 1) (lv' := [some (.ref (E.1 n 3)), some (.int (y1)), some (.long (y2)), none, some (.int (y4)), some (.int (y5 + 1)), some (.int (u1))]) dX6_longestPrefix_63 rfl (by decide) (by decide) rfl rfl ?_
            refine gm_goto (tgt := 7) dX6_longestPrefix_66 (by decide) ?_
            exact gm_weak (lsub_s (lsub_s (lsub_s (lsub_n (lsub_s (lsub_s (lsub_n lsub_0))))))) (hrc7 q2.2 y1 y2 y4 (y5 + 1))
          · refine gm_iload dX6_longestPrefix_59 rfl ?_
            refine gm_istore (lv' := [some (.ref (E.1 n 3)), some (.int (y1)), some (.long (y2)), none, some (.int (u1)), some (.int (y5)), some (.int (u1))]) dX6_longestPrefix_61 (by decide) rfl rfl ?_
            refine gm_iinc (v := 1) (lv' := [some (.ref (E.1 n 3)), some (.int (y1)), some (.long (y2)), none, some (.int (u1)), some (.int (y5 + 1)), some (.int (u1))]) dX6_longestPrefix_63 rfl (by decide) (by decide) rfl rfl ?_
            refine gm_goto (tgt := 7) dX6_longestPrefix_66 (by decide) ?_
            exact gm_weak (lsub_s (lsub_s (lsub_s (lsub_n (lsub_s (lsub_s (lsub_n lsub_0))))))) (hrc7 q2.2 y1 y2 u1 (y5 + 1))
noncomputable def h_X6_longestPrefix_7 (n : Nat) : Nat → (Wd → Int32 → Int64 → Int32 → Int32 → Option (Int32 × Wd))
  | 0 => fun _ _ _ _ _ => none
  | fu + 1 => b_X6_longestPrefix_7 n   (h_X6_longestPrefix_7 n   fu)
set_option maxRecDepth 100000 in
set_option maxHeartbeats 4000000 in
theorem k_X6_longestPrefix_7 {l : Launch} {E : En} (n : Nat) (hn : n < 7) : ∀ (fu : Nat) (w : Wd) (y1 : Int32) (y2 : Int64) (y4 : Int32) (y5 : Int32), Gm l E cX6_longestPrefix 7 RX6 (some .int) (rmk (2)) eI (h_X6_longestPrefix_7 n   fu w y1 y2 y4 y5) w 7 [some (.ref (E.1 n 3)), some (.int (y1)), some (.long (y2)), none, some (.int (y4)), some (.int (y5)), none] []
  | 0, _, _, _, _, _ => gm_none
  | fu + 1, w, y1, y2, y4, y5 => kb_X6_longestPrefix_7 n hn   (h_X6_longestPrefix_7 n   fu)  (fun w y1 y2 y4 y5 => k_X6_longestPrefix_7 n hn    fu w y1 y2 y4 y5) w y1 y2 y4 y5
noncomputable def f_X6_longestPrefix (n : Nat) (w : Wd) (x1 : Int32) (x2 : Int64) : Option (Int32 × Wd) :=
  h_X6_longestPrefix_7 n FU w x1 x2 (-9) 0
set_option maxRecDepth 100000 in
set_option maxHeartbeats 4000000 in
theorem t_X6_longestPrefix {l : Launch} {E : En} (n : Nat) (hn : n < 7) (w : Wd) (x1 : Int32) (x2 : Int64) : ∀ q, f_X6_longestPrefix  n w x1 x2 = some q → Mt l E yX6_longestPrefix cX6_longestPrefix 7 (some .int) (rmk 2) [.ref (E.1 n 3), .int (x1), .long (x2)] w (eI q.1) q.2 := by
  refine Mt.of [some (.ref (E.1 n 3)), some (.int (x1)), some (.long (x2)), none, none, none, none] (plainFor_of_name pn_X6) rfl (Nat.le_of_ble_eq_true rfl) rfl ?_
  unfold f_X6_longestPrefix
  refine gm_bipush (v := (-9)) dX6_longestPrefix_0 (by decide) ?_
  refine gm_istore (lv' := [some (.ref (E.1 n 3)), some (.int (x1)), some (.long (x2)), none, some (.int ((-9))), none, none]) dX6_longestPrefix_2 (by decide) rfl rfl ?_
  refine gm_iconst (v := 0) dX6_longestPrefix_4 (by decide) ?_
  refine gm_istore (lv' := [some (.ref (E.1 n 3)), some (.int (x1)), some (.long (x2)), none, some (.int ((-9))), some (.int (0)), none]) dX6_longestPrefix_5 (by decide) rfl rfl ?_
  exact gm_weak (lsub_s (lsub_s (lsub_s (lsub_n (lsub_s (lsub_s (lsub_n lsub_0))))))) (k_X6_longestPrefix_7 n hn FU w x1 x2 (-9) 0)

noncomputable def f_X6_size (n : Nat) (w : Wd) : Option (Int32 × Wd) :=
  some (w n 3 6, w)
set_option maxRecDepth 100000 in
set_option maxHeartbeats 4000000 in
theorem t_X6_size {l : Launch} {E : En} (n : Nat) (hn : n < 7) (w : Wd) : ∀ q, f_X6_size  n w  = some q → Mt l E yX6_size cX6_size 1 (some .int) (rmk 1) [.ref (E.1 n 3)] w (eI q.1) q.2 := by
  refine Mt.of [some (.ref (E.1 n 3))] (plainFor_of_name pn_X6) rfl (Nat.le_of_ble_eq_true rfl) rfl ?_
  unfold f_X6_size
  refine gm_aload_n dX6_size_0 rfl rfl ?_
  refine gm_get dX6_size_1 (ce_n_3 (n := n) hn) rfl inX6 6 (by decide) tb_97 rfl rfl ?_
  exact gm_iret dX6_size_4
noncomputable def p_X6_size (n : Nat) (w : Wd) : Int32 :=
  w n 3 6
theorem fp_X6_size (n : Nat) (w : Wd) : f_X6_size n w  = some (p_X6_size n w , w) := by
  unfold f_X6_size p_X6_size
  (try simp only [leti, letl])
  repeat' (first | rfl | split)
theorem tk_X6_size {l : Launch} {E : En} (n : Nat) (hn : n < 7) (w : Wd) : Mt l E yX6_size cX6_size 1 (some .int) (rmk 1) [.ref (E.1 n 3)] w (some (.int (p_X6_size n w ))) w := t_X6_size n hn w  _ (fp_X6_size n w )

noncomputable def f_X6_has (n : Nat) (w : Wd) (x1 : Int32) : Option (Int32 × Wd) :=
  if x1 < 0 then
    some (0, w)
  else
    if (w n 3 6) ≤ x1 then
      some (0, w)
    else
      if 40 ≤ x1 then
        some (0, w)
      else
        some (1, w)
set_option maxRecDepth 100000 in
set_option maxHeartbeats 4000000 in
theorem t_X6_has {l : Launch} {E : En} (n : Nat) (hn : n < 7) (w : Wd) (x1 : Int32) : ∀ q, f_X6_has  n w x1 = some q → Mt l E yX6_has cX6_has 2 (some .boolean) (rmk 1) [.ref (E.1 n 3), .int (x1)] w (eI q.1) q.2 := by
  refine Mt.of [some (.ref (E.1 n 3)), some (.int (x1))] (plainFor_of_name pn_X6) rfl (Nat.le_of_ble_eq_true rfl) rfl ?_
  unfold f_X6_has
  refine gm_iload_n dX6_has_0 rfl rfl ?_
  refine gm_if_lt (tgt := 22) dX6_has_1 (by decide) ?_ ?_
  · refine gm_iconst (v := 0) dX6_has_22 (by decide) ?_
    exact gm_zret dX6_has_23 rfl
  · refine gm_iload_n dX6_has_4 rfl rfl ?_
    refine gm_aload_n dX6_has_5 rfl rfl ?_
    refine gm_get dX6_has_6 (ce_n_3 (n := n) hn) rfl inX6 6 (by decide) tb_97 rfl rfl ?_
    refine gm_icmp_ge (tgt := 22) dX6_has_9 (by decide) ?_ ?_
    · refine gm_iconst (v := 0) dX6_has_22 (by decide) ?_
      exact gm_zret dX6_has_23 rfl
    · refine gm_iload_n dX6_has_12 rfl rfl ?_
      refine gm_bipush (v := 40) dX6_has_13 (by decide) ?_
      refine gm_icmp_ge (tgt := 22) dX6_has_15 (by decide) ?_ ?_
      · refine gm_iconst (v := 0) dX6_has_22 (by decide) ?_
        exact gm_zret dX6_has_23 rfl
      · refine gm_iconst (v := 1) dX6_has_18 (by decide) ?_
        refine gm_goto (tgt := 23) dX6_has_19 (by decide) ?_
        exact gm_zret dX6_has_23 rfl
noncomputable def p_X6_has (n : Nat) (w : Wd) (x1 : Int32) : Int32 :=
  if x1 < 0 then
    0
  else
    if (w n 3 6) ≤ x1 then
      0
    else
      if 40 ≤ x1 then
        0
      else
        1
theorem fp_X6_has (n : Nat) (w : Wd) (x1 : Int32) : f_X6_has n w x1 = some (p_X6_has n w x1, w) := by
  unfold f_X6_has p_X6_has
  (try simp only [leti, letl])
  repeat' (first | rfl | split)
theorem tk_X6_has {l : Launch} {E : En} (n : Nat) (hn : n < 7) (w : Wd) (x1 : Int32) : Mt l E yX6_has cX6_has 2 (some .boolean) (rmk 1) [.ref (E.1 n 3), .int (x1)] w (some (.int (p_X6_has n w x1))) w := t_X6_has n hn w x1 _ (fp_X6_has n w x1)

noncomputable def f_X6_nextOf (n : Nat) (w : Wd) (x1 : Int32) : Option (Int32 × Wd) :=
  if (p_X6_has n w x1) = 0 then
    some ((-9), w)
  else
    if ib x1 40 = true then
    some (w n 6 (Int32.toNatClampNeg x1), w)
    else none
set_option maxRecDepth 100000 in
set_option maxHeartbeats 4000000 in
theorem t_X6_nextOf {l : Launch} {E : En} (n : Nat) (hn : n < 7) (w : Wd) (x1 : Int32) : ∀ q, f_X6_nextOf  n w x1 = some q → Mt l E yX6_nextOf cX6_nextOf 2 (some .int) (rmk 2) [.ref (E.1 n 3), .int (x1)] w (eI q.1) q.2 := by
  refine Mt.of [some (.ref (E.1 n 3)), some (.int (x1))] (plainFor_of_name pn_X6) rfl (Nat.le_of_ble_eq_true rfl) rfl ?_
  unfold f_X6_nextOf
  refine gm_aload_n dX6_nextOf_0 rfl rfl ?_
  refine gm_iload_n dX6_nextOf_1 rfl rfl ?_
  refine gm_callVk (As := [.int (x1)]) dX6_nextOf_2 (tk_X6_has n hn w x1) (ce_n_3 (n := n) hn) rfl cy_X6_has tb_432 rfl rfl (rm_ok (by decide) (by decide)) (Nat.le_of_ble_eq_true rfl) ?_
  refine gm_if_eq (tgt := 17) dX6_nextOf_5 (by decide) ?_ ?_
  · refine gm_bipush (v := (-9)) dX6_nextOf_17 (by decide) ?_
    exact gm_iret dX6_nextOf_19
  · refine gm_aload_n dX6_nextOf_8 rfl rfl ?_
    refine gm_get dX6_nextOf_9 (ce_n_3 (n := n) hn) rfl inX6 2 (by decide) tb_93 rfl rfl ?_
    refine gm_iload_n dX6_nextOf_12 rfl rfl ?_
    refine gm_iald dX6_nextOf_13 (ce_n_6 (n := n) hn) ?_
    refine gm_goto (tgt := 19) dX6_nextOf_14 (by decide) ?_
    exact gm_iret dX6_nextOf_19

noncomputable def f_X6_belongs (n : Nat) (w : Wd) (x1 : Int32) (x2 : Int32) (x3 : Int32) : Option (Int32 × Wd) :=
  if (p_X6_has n w x1) = 0 then
    some (0, w)
  else
    if ib x1 40 = true then
    if (w n 4 (Int32.toNatClampNeg x1)) = x2 then
      if ib x1 40 = true then
      if (w n 5 (Int32.toNatClampNeg x1)) = x3 then
        some (1, w)
      else
        some (0, w)
      else none
    else
      some (0, w)
    else none
set_option maxRecDepth 100000 in
set_option maxHeartbeats 4000000 in
theorem t_X6_belongs {l : Launch} {E : En} (n : Nat) (hn : n < 7) (w : Wd) (x1 : Int32) (x2 : Int32) (x3 : Int32) : ∀ q, f_X6_belongs  n w x1 x2 x3 = some q → Mt l E yX6_belongs cX6_belongs 4 (some .boolean) (rmk 2) [.ref (E.1 n 3), .int (x1), .int (x2), .int (x3)] w (eI q.1) q.2 := by
  refine Mt.of [some (.ref (E.1 n 3)), some (.int (x1)), some (.int (x2)), some (.int (x3))] (plainFor_of_name pn_X6) rfl (Nat.le_of_ble_eq_true rfl) rfl ?_
  unfold f_X6_belongs
  refine gm_aload_n dX6_belongs_0 rfl rfl ?_
  refine gm_iload_n dX6_belongs_1 rfl rfl ?_
  refine gm_callVk (As := [.int (x1)]) dX6_belongs_2 (tk_X6_has n hn w x1) (ce_n_3 (n := n) hn) rfl cy_X6_has tb_432 rfl rfl (rm_ok (by decide) (by decide)) (Nat.le_of_ble_eq_true rfl) ?_
  refine gm_if_eq (tgt := 32) dX6_belongs_5 (by decide) ?_ ?_
  · refine gm_iconst (v := 0) dX6_belongs_32 (by decide) ?_
    exact gm_zret dX6_belongs_33 rfl
  · refine gm_aload_n dX6_belongs_8 rfl rfl ?_
    refine gm_get dX6_belongs_9 (ce_n_3 (n := n) hn) rfl inX6 0 (by decide) tb_91 rfl rfl ?_
    refine gm_iload_n dX6_belongs_12 rfl rfl ?_
    refine gm_iald dX6_belongs_13 (ce_n_4 (n := n) hn) ?_
    refine gm_iload_n dX6_belongs_14 rfl rfl ?_
    refine gm_icmp_ne (tgt := 32) dX6_belongs_15 (by decide) ?_ ?_
    · refine gm_iconst (v := 0) dX6_belongs_32 (by decide) ?_
      exact gm_zret dX6_belongs_33 rfl
    · refine gm_aload_n dX6_belongs_18 rfl rfl ?_
      refine gm_get dX6_belongs_19 (ce_n_3 (n := n) hn) rfl inX6 1 (by decide) tb_92 rfl rfl ?_
      refine gm_iload_n dX6_belongs_22 rfl rfl ?_
      refine gm_iald dX6_belongs_23 (ce_n_5 (n := n) hn) ?_
      refine gm_iload_n dX6_belongs_24 rfl rfl ?_
      refine gm_icmp_ne (tgt := 32) dX6_belongs_25 (by decide) ?_ ?_
      · refine gm_iconst (v := 0) dX6_belongs_32 (by decide) ?_
        exact gm_zret dX6_belongs_33 rfl
      · refine gm_iconst (v := 1) dX6_belongs_28 (by decide) ?_
        refine gm_goto (tgt := 33) dX6_belongs_29 (by decide) ?_
        exact gm_zret dX6_belongs_33 rfl

noncomputable def f_X6_serves (n : Nat) (w : Wd) (x1 : Int32) : Option (Int32 × Wd) :=
  if (p_X6_has n w x1) = 0 then
    some (0, w)
  else
    if ib x1 40 = true then
    if ib x1 40 = true then
    if (w n 4 (Int32.toNatClampNeg x1)) = (w n 6 (Int32.toNatClampNeg x1)) then
      some (1, w)
    else
      some (0, w)
    else none
    else none
set_option maxRecDepth 100000 in
set_option maxHeartbeats 4000000 in
theorem t_X6_serves {l : Launch} {E : En} (n : Nat) (hn : n < 7) (w : Wd) (x1 : Int32) : ∀ q, f_X6_serves  n w x1 = some q → Mt l E yX6_serves cX6_serves 2 (some .boolean) (rmk 2) [.ref (E.1 n 3), .int (x1)] w (eI q.1) q.2 := by
  refine Mt.of [some (.ref (E.1 n 3)), some (.int (x1))] (plainFor_of_name pn_X6) rfl (Nat.le_of_ble_eq_true rfl) rfl ?_
  unfold f_X6_serves
  refine gm_aload_n dX6_serves_0 rfl rfl ?_
  refine gm_iload_n dX6_serves_1 rfl rfl ?_
  refine gm_callVk (As := [.int (x1)]) dX6_serves_2 (tk_X6_has n hn w x1) (ce_n_3 (n := n) hn) rfl cy_X6_has tb_432 rfl rfl (rm_ok (by decide) (by decide)) (Nat.le_of_ble_eq_true rfl) ?_
  refine gm_if_eq (tgt := 27) dX6_serves_5 (by decide) ?_ ?_
  · refine gm_iconst (v := 0) dX6_serves_27 (by decide) ?_
    exact gm_zret dX6_serves_28 rfl
  · refine gm_aload_n dX6_serves_8 rfl rfl ?_
    refine gm_get dX6_serves_9 (ce_n_3 (n := n) hn) rfl inX6 0 (by decide) tb_91 rfl rfl ?_
    refine gm_iload_n dX6_serves_12 rfl rfl ?_
    refine gm_iald dX6_serves_13 (ce_n_4 (n := n) hn) ?_
    refine gm_aload_n dX6_serves_14 rfl rfl ?_
    refine gm_get dX6_serves_15 (ce_n_3 (n := n) hn) rfl inX6 2 (by decide) tb_93 rfl rfl ?_
    refine gm_iload_n dX6_serves_18 rfl rfl ?_
    refine gm_iald dX6_serves_19 (ce_n_6 (n := n) hn) ?_
    refine gm_icmp_ne (tgt := 27) dX6_serves_20 (by decide) ?_ ?_
    · refine gm_iconst (v := 0) dX6_serves_27 (by decide) ?_
      exact gm_zret dX6_serves_28 rfl
    · refine gm_iconst (v := 1) dX6_serves_23 (by decide) ?_
      refine gm_goto (tgt := 28) dX6_serves_24 (by decide) ?_
      exact gm_zret dX6_serves_28 rfl

noncomputable def f_X6_costOf (n : Nat) (w : Wd) (x1 : Int32) (x2 : Int32) : Option (Int32 × Wd) :=
  leti ((x1 * 3) + x2) fun u1 =>
  if u1 < 0 then
    some (0, w)
  else
    if 120 ≤ u1 then
      some (0, w)
    else
      if ib u1 120 = true then
      some (w n 7 (Int32.toNatClampNeg u1), w)
      else none
set_option maxRecDepth 100000 in
set_option maxHeartbeats 4000000 in
theorem t_X6_costOf {l : Launch} {E : En} (n : Nat) (hn : n < 7) (w : Wd) (x1 : Int32) (x2 : Int32) : ∀ q, f_X6_costOf  n w x1 x2 = some q → Mt l E yX6_costOf cX6_costOf 4 (some .int) (rmk 1) [.ref (E.1 n 3), .int (x1), .int (x2)] w (eI q.1) q.2 := by
  refine Mt.of [some (.ref (E.1 n 3)), some (.int (x1)), some (.int (x2)), none] (plainFor_of_name pn_X6) rfl (Nat.le_of_ble_eq_true rfl) rfl ?_
  unfold f_X6_costOf
  refine gm_iload_n dX6_costOf_0 rfl rfl ?_
  refine gm_iconst (v := 3) dX6_costOf_1 (by decide) ?_
  refine gm_imul dX6_costOf_2 ?_
  refine gm_iload_n dX6_costOf_3 rfl rfl ?_
  refine gm_iadd dX6_costOf_4 ?_
  refine gm_leti_st (fun u1 => ?_)
  refine gm_istore_n (lv' := [some (.ref (E.1 n 3)), some (.int (x1)), some (.int (x2)), some (.int (u1))]) dX6_costOf_5 rfl (by decide) rfl rfl ?_
  refine gm_iload_n dX6_costOf_6 rfl rfl ?_
  refine gm_if_lt (tgt := 25) dX6_costOf_7 (by decide) ?_ ?_
  · refine gm_iconst (v := 0) dX6_costOf_25 (by decide) ?_
    exact gm_iret dX6_costOf_26
  · refine gm_iload_n dX6_costOf_10 rfl rfl ?_
    refine gm_bipush (v := 120) dX6_costOf_11 (by decide) ?_
    refine gm_icmp_ge (tgt := 25) dX6_costOf_13 (by decide) ?_ ?_
    · refine gm_iconst (v := 0) dX6_costOf_25 (by decide) ?_
      exact gm_iret dX6_costOf_26
    · refine gm_aload_n dX6_costOf_16 rfl rfl ?_
      refine gm_get dX6_costOf_17 (ce_n_3 (n := n) hn) rfl inX6 3 (by decide) tb_94 rfl rfl ?_
      refine gm_iload_n dX6_costOf_20 rfl rfl ?_
      refine gm_iald dX6_costOf_21 (ce_n_7 (n := n) hn) ?_
      refine gm_goto (tgt := 26) dX6_costOf_22 (by decide) ?_
      exact gm_iret dX6_costOf_26

noncomputable def f_X6_copyFrom (n : Nat) (n2 : Nat) (w : Wd) : Option (Unit × Wd) :=
  letw (wcp w n2 4 n 4 0 0 40) fun w1 =>
  letw (wcp w1 n2 5 n 5 0 0 40) fun w2 =>
  letw (wcp w2 n2 6 n 6 0 0 40) fun w3 =>
  letw (wcp w3 n2 7 n 7 0 0 120) fun w4 =>
  letw (wcp w4 n2 8 n 8 0 0 40) fun w5 =>
  letw (wcp w5 n2 9 n 9 0 0 40) fun w6 =>
  letw (wup w6 n 3 6 (w6 n2 3 6)) fun w7 =>
  some ((), w7)
set_option maxRecDepth 100000 in
set_option maxHeartbeats 4000000 in
theorem t_X6_copyFrom {l : Launch} {E : En} (n : Nat) (n2 : Nat) (hn : n < 7) (hn2 : n2 < 7) (w : Wd) : ∀ q, f_X6_copyFrom  n n2 w  = some q → Mt l E yX6_copyFrom cX6_copyFrom 2 none (rmk 2) [.ref (E.1 n 3), .ref (E.1 n2 3)] w (eV q.1) q.2 := by
  refine Mt.of [some (.ref (E.1 n 3)), some (.ref (E.1 n2 3))] (plainFor_of_name pn_X6) rfl (Nat.le_of_ble_eq_true rfl) rfl ?_
  unfold f_X6_copyFrom
  refine gm_aload_n dX6_copyFrom_0 rfl rfl ?_
  refine gm_get dX6_copyFrom_1 (ce_n_3 (n := n2) hn2) rfl inX6 0 (by decide) tb_91 rfl rfl ?_
  refine gm_iconst (v := 0) dX6_copyFrom_4 (by decide) ?_
  refine gm_aload_n dX6_copyFrom_5 rfl rfl ?_
  refine gm_get dX6_copyFrom_6 (ce_n_3 (n := n) hn) rfl inX6 0 (by decide) tb_91 rfl rfl ?_
  refine gm_iconst (v := 0) dX6_copyFrom_9 (by decide) ?_
  refine gm_bipush (v := 40) dX6_copyFrom_10 (by decide) ?_
  refine gm_copyi (sp1 := 0) (dp1 := 0) (n2 := 40) dX6_copyFrom_12 (ce_n_4 (n := n2) hn2) (ce_n_4 (n := n) hn) tb_347 tb_342 tb_341 tb_69 (by decide) (by decide) (by decide) (by decide) (by decide) (by decide) (by decide) (by decide) (by decide) (by decide) (fun w1 => ?_)
  refine gm_aload_n dX6_copyFrom_15 rfl rfl ?_
  refine gm_get dX6_copyFrom_16 (ce_n_3 (n := n2) hn2) rfl inX6 1 (by decide) tb_92 rfl rfl ?_
  refine gm_iconst (v := 0) dX6_copyFrom_19 (by decide) ?_
  refine gm_aload_n dX6_copyFrom_20 rfl rfl ?_
  refine gm_get dX6_copyFrom_21 (ce_n_3 (n := n) hn) rfl inX6 1 (by decide) tb_92 rfl rfl ?_
  refine gm_iconst (v := 0) dX6_copyFrom_24 (by decide) ?_
  refine gm_bipush (v := 40) dX6_copyFrom_25 (by decide) ?_
  refine gm_copyi (sp1 := 0) (dp1 := 0) (n2 := 40) dX6_copyFrom_27 (ce_n_5 (n := n2) hn2) (ce_n_5 (n := n) hn) tb_347 tb_342 tb_341 tb_69 (by decide) (by decide) (by decide) (by decide) (by decide) (by decide) (by decide) (by decide) (by decide) (by decide) (fun w2 => ?_)
  refine gm_aload_n dX6_copyFrom_30 rfl rfl ?_
  refine gm_get dX6_copyFrom_31 (ce_n_3 (n := n2) hn2) rfl inX6 2 (by decide) tb_93 rfl rfl ?_
  refine gm_iconst (v := 0) dX6_copyFrom_34 (by decide) ?_
  refine gm_aload_n dX6_copyFrom_35 rfl rfl ?_
  refine gm_get dX6_copyFrom_36 (ce_n_3 (n := n) hn) rfl inX6 2 (by decide) tb_93 rfl rfl ?_
  refine gm_iconst (v := 0) dX6_copyFrom_39 (by decide) ?_
  refine gm_bipush (v := 40) dX6_copyFrom_40 (by decide) ?_
  refine gm_copyi (sp1 := 0) (dp1 := 0) (n2 := 40) dX6_copyFrom_42 (ce_n_6 (n := n2) hn2) (ce_n_6 (n := n) hn) tb_347 tb_342 tb_341 tb_69 (by decide) (by decide) (by decide) (by decide) (by decide) (by decide) (by decide) (by decide) (by decide) (by decide) (fun w3 => ?_)
  refine gm_aload_n dX6_copyFrom_45 rfl rfl ?_
  refine gm_get dX6_copyFrom_46 (ce_n_3 (n := n2) hn2) rfl inX6 3 (by decide) tb_94 rfl rfl ?_
  refine gm_iconst (v := 0) dX6_copyFrom_49 (by decide) ?_
  refine gm_aload_n dX6_copyFrom_50 rfl rfl ?_
  refine gm_get dX6_copyFrom_51 (ce_n_3 (n := n) hn) rfl inX6 3 (by decide) tb_94 rfl rfl ?_
  refine gm_iconst (v := 0) dX6_copyFrom_54 (by decide) ?_
  refine gm_bipush (v := 120) dX6_copyFrom_55 (by decide) ?_
  refine gm_copyi (sp1 := 0) (dp1 := 0) (n2 := 120) dX6_copyFrom_57 (ce_n_7 (n := n2) hn2) (ce_n_7 (n := n) hn) tb_347 tb_342 tb_341 tb_69 (by decide) (by decide) (by decide) (by decide) (by decide) (by decide) (by decide) (by decide) (by decide) (by decide) (fun w4 => ?_)
  refine gm_aload_n dX6_copyFrom_60 rfl rfl ?_
  refine gm_get dX6_copyFrom_61 (ce_n_3 (n := n2) hn2) rfl inX6 4 (by decide) tb_95 rfl rfl ?_
  refine gm_iconst (v := 0) dX6_copyFrom_64 (by decide) ?_
  refine gm_aload_n dX6_copyFrom_65 rfl rfl ?_
  refine gm_get dX6_copyFrom_66 (ce_n_3 (n := n) hn) rfl inX6 4 (by decide) tb_95 rfl rfl ?_
  refine gm_iconst (v := 0) dX6_copyFrom_69 (by decide) ?_
  refine gm_bipush (v := 40) dX6_copyFrom_70 (by decide) ?_
  refine gm_copyi (sp1 := 0) (dp1 := 0) (n2 := 40) dX6_copyFrom_72 (ce_n_8 (n := n2) hn2) (ce_n_8 (n := n) hn) tb_347 tb_342 tb_341 tb_69 (by decide) (by decide) (by decide) (by decide) (by decide) (by decide) (by decide) (by decide) (by decide) (by decide) (fun w5 => ?_)
  refine gm_aload_n dX6_copyFrom_75 rfl rfl ?_
  refine gm_get dX6_copyFrom_76 (ce_n_3 (n := n2) hn2) rfl inX6 5 (by decide) tb_96 rfl rfl ?_
  refine gm_iconst (v := 0) dX6_copyFrom_79 (by decide) ?_
  refine gm_aload_n dX6_copyFrom_80 rfl rfl ?_
  refine gm_get dX6_copyFrom_81 (ce_n_3 (n := n) hn) rfl inX6 5 (by decide) tb_96 rfl rfl ?_
  refine gm_iconst (v := 0) dX6_copyFrom_84 (by decide) ?_
  refine gm_bipush (v := 40) dX6_copyFrom_85 (by decide) ?_
  refine gm_copyi (sp1 := 0) (dp1 := 0) (n2 := 40) dX6_copyFrom_87 (ce_n_9 (n := n2) hn2) (ce_n_9 (n := n) hn) tb_347 tb_342 tb_341 tb_69 (by decide) (by decide) (by decide) (by decide) (by decide) (by decide) (by decide) (by decide) (by decide) (by decide) (fun w6 => ?_)
  refine gm_aload_n dX6_copyFrom_90 rfl rfl ?_
  refine gm_aload_n dX6_copyFrom_91 rfl rfl ?_
  refine gm_get dX6_copyFrom_92 (ce_n_3 (n := n2) hn2) rfl inX6 6 (by decide) tb_97 rfl rfl ?_
  refine gm_put dX6_copyFrom_95 (ce_n_3 (n := n) hn) rfl inX6 tyX6 tyX6_ok nmX6 6 (by decide) tb_97 rfl rfl (by decide +kernel) (fun _ => rfl) (fun _ => rfl) (fun w7 => ?_)
  exact gm_vret dX6_copyFrom_98

noncomputable def f_X6_isBefore (n : Nat) (w : Wd) (x1 : Int32) (x2 : Int32) (x3 : Int32) : Option (Int32 × Wd) :=
  (f_X6_costOf n w x1 x3).bind fun q1 =>
  (f_X6_costOf n q1.2 x2 x3).bind fun q2 =>
  if q1.1 < q2.1 then
    some (1, q2.2)
  else
    if q1.1 = q2.1 then
      if x2 ≤ x1 then
        some (0, q2.2)
      else
        some (1, q2.2)
    else
      some (0, q2.2)
set_option maxRecDepth 100000 in
set_option maxHeartbeats 4000000 in
theorem t_X6_isBefore {l : Launch} {E : En} (n : Nat) (hn : n < 7) (w : Wd) (x1 : Int32) (x2 : Int32) (x3 : Int32) : ∀ q, f_X6_isBefore  n w x1 x2 x3 = some q → Mt l E yX6_isBefore cX6_isBefore 6 (some .boolean) (rmk 2) [.ref (E.1 n 3), .int (x1), .int (x2), .int (x3)] w (eI q.1) q.2 := by
  refine Mt.of [some (.ref (E.1 n 3)), some (.int (x1)), some (.int (x2)), some (.int (x3)), none, none] (plainFor_of_name pn_X6) rfl (Nat.le_of_ble_eq_true rfl) rfl ?_
  unfold f_X6_isBefore
  refine gm_aload_n dX6_isBefore_0 rfl rfl ?_
  refine gm_iload_n dX6_isBefore_1 rfl rfl ?_
  refine gm_iload_n dX6_isBefore_2 rfl rfl ?_
  refine gm_callVi (As := [.int (x1), .int (x3)]) dX6_isBefore_3 (t_X6_costOf n hn w x1 x3) (ce_n_3 (n := n) hn) rfl cy_X6_costOf tb_557 rfl rfl (rm_ok (by decide) (by decide)) (Nat.le_of_ble_eq_true rfl) (fun q1 => ?_)
  refine gm_istore (lv' := [some (.ref (E.1 n 3)), some (.int (x1)), some (.int (x2)), some (.int (x3)), some (.int (q1.1)), none]) dX6_isBefore_6 (by decide) rfl rfl ?_
  refine gm_aload_n dX6_isBefore_8 rfl rfl ?_
  refine gm_iload_n dX6_isBefore_9 rfl rfl ?_
  refine gm_iload_n dX6_isBefore_10 rfl rfl ?_
  refine gm_callVi (As := [.int (x2), .int (x3)]) dX6_isBefore_11 (t_X6_costOf n hn q1.2 x2 x3) (ce_n_3 (n := n) hn) rfl cy_X6_costOf tb_557 rfl rfl (rm_ok (by decide) (by decide)) (Nat.le_of_ble_eq_true rfl) (fun q2 => ?_)
  refine gm_istore (lv' := [some (.ref (E.1 n 3)), some (.int (x1)), some (.int (x2)), some (.int (x3)), some (.int (q1.1)), some (.int (q2.1))]) dX6_isBefore_14 (by decide) rfl rfl ?_
  refine gm_iload dX6_isBefore_16 rfl ?_
  refine gm_iload dX6_isBefore_18 rfl ?_
  refine gm_icmp_lt (tgt := 35) dX6_isBefore_20 (by decide) ?_ ?_
  · refine gm_iconst (v := 1) dX6_isBefore_35 (by decide) ?_
    refine gm_goto (tgt := 40) dX6_isBefore_36 (by decide) ?_
    exact gm_zret dX6_isBefore_40 rfl
  · refine gm_iload dX6_isBefore_23 rfl ?_
    refine gm_iload dX6_isBefore_25 rfl ?_
    refine gm_icmp_ne (tgt := 39) dX6_isBefore_27 (by decide) ?_ ?_
    · refine gm_iconst (v := 0) dX6_isBefore_39 (by decide) ?_
      exact gm_zret dX6_isBefore_40 rfl
    · refine gm_iload_n dX6_isBefore_30 rfl rfl ?_
      refine gm_iload_n dX6_isBefore_31 rfl rfl ?_
      refine gm_icmp_ge (tgt := 39) dX6_isBefore_32 (by decide) ?_ ?_
      · refine gm_iconst (v := 0) dX6_isBefore_39 (by decide) ?_
        exact gm_zret dX6_isBefore_40 rfl
      · refine gm_iconst (v := 1) dX6_isBefore_35 (by decide) ?_
        refine gm_goto (tgt := 40) dX6_isBefore_36 (by decide) ?_
        exact gm_zret dX6_isBefore_40 rfl

noncomputable def j_X6_choiceAfter_45 (n : Nat) (rc7 : Wd → Int32 → Int32 → Int32 → Int32 → Int32 → Int32 → Option (Int32 × Wd)) (w : Wd) (y1 : Int32) (y2 : Int32) (y3 : Int32) (y4 : Int32) (y5 : Int32) (y6 : Int32) : Option (Int32 × Wd) :=
  if y5 = (-9) then
    rc7 w y1 y2 y3 y4 y6 (y6 + 1)
  else
    (f_X6_isBefore n w y6 y5 y4).bind fun q2 =>
    if q2.1 = 0 then
      rc7 q2.2 y1 y2 y3 y4 y5 (y6 + 1)
    else
      rc7 q2.2 y1 y2 y3 y4 y6 (y6 + 1)
set_option maxRecDepth 100000 in
set_option maxHeartbeats 4000000 in
theorem k_X6_choiceAfter_45 {l : Launch} {E : En} (n : Nat) (hn : n < 7) (rc7 : Wd → Int32 → Int32 → Int32 → Int32 → Int32 → Int32 → Option (Int32 × Wd)) (hrc7 : ∀ (w : Wd) (y1 : Int32) (y2 : Int32) (y3 : Int32) (y4 : Int32) (y5 : Int32) (y6 : Int32), Gm l E cX6_choiceAfter 7 RX6 (some .int) (rmk (3)) eI (rc7 w y1 y2 y3 y4 y5 y6) w 7 [some (.ref (E.1 n 3)), some (.int (y1)), some (.int (y2)), some (.int (y3)), some (.int (y4)), some (.int (y5)), some (.int (y6))] []) (w : Wd) (y1 : Int32) (y2 : Int32) (y3 : Int32) (y4 : Int32) (y5 : Int32) (y6 : Int32) : Gm l E cX6_choiceAfter 7 RX6 (some .int) (rmk (3)) eI (j_X6_choiceAfter_45 n  rc7 w y1 y2 y3 y4 y5 y6) w 45 [some (.ref (E.1 n 3)), some (.int (y1)), some (.int (y2)), some (.int (y3)), some (.int (y4)), some (.int (y5)), some (.int (y6))] [] := by
  unfold j_X6_choiceAfter_45
  refine gm_iload dX6_choiceAfter_45 rfl ?_
  refine gm_bipush (v := (-9)) dX6_choiceAfter_47 (by decide) ?_
  refine gm_icmp_eq (tgt := 65) dX6_choiceAfter_49 (by decide) ?_ ?_
  · refine gm_iload dX6_choiceAfter_65 rfl ?_
    refine gm_istore (lv' := [some (.ref (E.1 n 3)), some (.int (y1)), some (.int (y2)), some (.int (y3)), some (.int (y4)), some (.int (y6)), some (.int (y6))]) dX6_choiceAfter_67 (by decide) rfl rfl ?_
    refine gm_iinc (v := 1) (lv' := [some (.ref (E.1 n 3)), some (.int (y1)), some (.int (y2)), some (.int (y3)), some (.int (y4)), some (.int (y6)), some (.int (y6 + 1))]) dX6_choiceAfter_69 rfl (by decide) (by decide) rfl rfl ?_
    refine gm_goto (tgt := 7) dX6_choiceAfter_72 (by decide) ?_
    exact gm_weak (lsub_s (lsub_s (lsub_s (lsub_s (lsub_s (lsub_s (lsub_s lsub_0))))))) (hrc7 w y1 y2 y3 y4 y6 (y6 + 1))
  · refine gm_aload_n dX6_choiceAfter_52 rfl rfl ?_
    refine gm_iload dX6_choiceAfter_53 rfl ?_
    refine gm_iload dX6_choiceAfter_55 rfl ?_
    refine gm_iload dX6_choiceAfter_57 rfl ?_
    refine gm_callVi (As := [.int (y6), .int (y5), .int (y4)]) dX6_choiceAfter_59 (t_X6_isBefore n hn w y6 y5 y4) (ce_n_3 (n := n) hn) rfl cy_X6_isBefore tb_553 rfl rfl (rm_ok (by decide) (by decide)) (Nat.le_of_ble_eq_true rfl) (fun q2 => ?_)
    refine gm_if_eq (tgt := 69) dX6_choiceAfter_62 (by decide) ?_ ?_
    · refine gm_iinc (v := 1) (lv' := [some (.ref (E.1 n 3)), some (.int (y1)), some (.int (y2)), some (.int (y3)), some (.int (y4)), some (.int (y5)), some (.int (y6 + 1))]) dX6_choiceAfter_69 rfl (by decide) (by decide) rfl rfl ?_
      refine gm_goto (tgt := 7) dX6_choiceAfter_72 (by decide) ?_
      exact gm_weak (lsub_s (lsub_s (lsub_s (lsub_s (lsub_s (lsub_s (lsub_s lsub_0))))))) (hrc7 q2.2 y1 y2 y3 y4 y5 (y6 + 1))
    · refine gm_iload dX6_choiceAfter_65 rfl ?_
      refine gm_istore (lv' := [some (.ref (E.1 n 3)), some (.int (y1)), some (.int (y2)), some (.int (y3)), some (.int (y4)), some (.int (y6)), some (.int (y6))]) dX6_choiceAfter_67 (by decide) rfl rfl ?_
      refine gm_iinc (v := 1) (lv' := [some (.ref (E.1 n 3)), some (.int (y1)), some (.int (y2)), some (.int (y3)), some (.int (y4)), some (.int (y6)), some (.int (y6 + 1))]) dX6_choiceAfter_69 rfl (by decide) (by decide) rfl rfl ?_
      refine gm_goto (tgt := 7) dX6_choiceAfter_72 (by decide) ?_
      exact gm_weak (lsub_s (lsub_s (lsub_s (lsub_s (lsub_s (lsub_s (lsub_s lsub_0))))))) (hrc7 q2.2 y1 y2 y3 y4 y6 (y6 + 1))
noncomputable def b_X6_choiceAfter_7 (n : Nat) (rc7 : Wd → Int32 → Int32 → Int32 → Int32 → Int32 → Int32 → Option (Int32 × Wd)) (w : Wd) (y1 : Int32) (y2 : Int32) (y3 : Int32) (y4 : Int32) (y5 : Int32) (y6 : Int32) : Option (Int32 × Wd) :=
  if (w n 3 6) ≤ y6 then
    some (y5, w)
  else
    (f_X6_belongs n w y6 y2 y3).bind fun q1 =>
    if q1.1 = 0 then
      rc7 q1.2 y1 y2 y3 y4 y5 (y6 + 1)
    else
      if y1 = (-9) then
        j_X6_choiceAfter_45 n rc7 q1.2 y1 y2 y3 y4 y5 y6
      else
        (f_X6_isBefore n q1.2 y1 y6 y4).bind fun q3 =>
        if q3.1 = 0 then
          rc7 q3.2 y1 y2 y3 y4 y5 (y6 + 1)
        else
          j_X6_choiceAfter_45 n rc7 q3.2 y1 y2 y3 y4 y5 y6
set_option maxRecDepth 100000 in
set_option maxHeartbeats 4000000 in
theorem kb_X6_choiceAfter_7 {l : Launch} {E : En} (n : Nat) (hn : n < 7) (rc7 : Wd → Int32 → Int32 → Int32 → Int32 → Int32 → Int32 → Option (Int32 × Wd)) (hrc7 : ∀ (w : Wd) (y1 : Int32) (y2 : Int32) (y3 : Int32) (y4 : Int32) (y5 : Int32) (y6 : Int32), Gm l E cX6_choiceAfter 7 RX6 (some .int) (rmk (3)) eI (rc7 w y1 y2 y3 y4 y5 y6) w 7 [some (.ref (E.1 n 3)), some (.int (y1)), some (.int (y2)), some (.int (y3)), some (.int (y4)), some (.int (y5)), some (.int (y6))] []) (w : Wd) (y1 : Int32) (y2 : Int32) (y3 : Int32) (y4 : Int32) (y5 : Int32) (y6 : Int32) : Gm l E cX6_choiceAfter 7 RX6 (some .int) (rmk (3)) eI (b_X6_choiceAfter_7 n  rc7 w y1 y2 y3 y4 y5 y6) w 7 [some (.ref (E.1 n 3)), some (.int (y1)), some (.int (y2)), some (.int (y3)), some (.int (y4)), some (.int (y5)), some (.int (y6))] [] := by
  unfold b_X6_choiceAfter_7
  refine gm_iload dX6_choiceAfter_7 rfl ?_
  refine gm_aload_n dX6_choiceAfter_9 rfl rfl ?_
  refine gm_get dX6_choiceAfter_10 (ce_n_3 (n := n) hn) rfl inX6 6 (by decide) tb_97 rfl rfl ?_
  refine gm_icmp_ge (tgt := 75) dX6_choiceAfter_13 (by decide) ?_ ?_
  · refine gm_iload dX6_choiceAfter_75 rfl ?_
    exact gm_iret dX6_choiceAfter_77
  · refine gm_aload_n dX6_choiceAfter_16 rfl rfl ?_
    refine gm_iload dX6_choiceAfter_17 rfl ?_
    refine gm_iload_n dX6_choiceAfter_19 rfl rfl ?_
    refine gm_iload_n dX6_choiceAfter_20 rfl rfl ?_
    refine gm_callVi (As := [.int (y6), .int (y2), .int (y3)]) dX6_choiceAfter_21 (t_X6_belongs n hn w y6 y2 y3) (ce_n_3 (n := n) hn) rfl cy_X6_belongs tb_549 rfl rfl (rm_ok (by decide) (by decide)) (Nat.le_of_ble_eq_true rfl) (fun q1 => ?_)
    refine gm_if_eq (tgt := 69) dX6_choiceAfter_24 (by decide) ?_ ?_
    · refine gm_iinc (v := 1) (lv' := [some (.ref (E.1 n 3)), some (.int (y1)), some (.int (y2)), some (.int (y3)), some (.int (y4)), some (.int (y5)), some (.int (y6 + 1))]) dX6_choiceAfter_69 rfl (by decide) (by decide) rfl rfl ?_
      refine gm_goto (tgt := 7) dX6_choiceAfter_72 (by decide) ?_
      exact gm_weak (lsub_s (lsub_s (lsub_s (lsub_s (lsub_s (lsub_s (lsub_s lsub_0))))))) (hrc7 q1.2 y1 y2 y3 y4 y5 (y6 + 1))
    · refine gm_iload_n dX6_choiceAfter_27 rfl rfl ?_
      refine gm_bipush (v := (-9)) dX6_choiceAfter_28 (by decide) ?_
      refine gm_icmp_eq (tgt := 45) dX6_choiceAfter_30 (by decide) ?_ ?_
      · exact gm_weak (lsub_s (lsub_s (lsub_s (lsub_s (lsub_s (lsub_s (lsub_s lsub_0))))))) (k_X6_choiceAfter_45 n hn rc7 hrc7 q1.2 y1 y2 y3 y4 y5 y6)
      · refine gm_aload_n dX6_choiceAfter_33 rfl rfl ?_
        refine gm_iload_n dX6_choiceAfter_34 rfl rfl ?_
        refine gm_iload dX6_choiceAfter_35 rfl ?_
        refine gm_iload dX6_choiceAfter_37 rfl ?_
        refine gm_callVi (As := [.int (y1), .int (y6), .int (y4)]) dX6_choiceAfter_39 (t_X6_isBefore n hn q1.2 y1 y6 y4) (ce_n_3 (n := n) hn) rfl cy_X6_isBefore tb_553 rfl rfl (rm_ok (by decide) (by decide)) (Nat.le_of_ble_eq_true rfl) (fun q3 => ?_)
        refine gm_if_eq (tgt := 69) dX6_choiceAfter_42 (by decide) ?_ ?_
        · refine gm_iinc (v := 1) (lv' := [some (.ref (E.1 n 3)), some (.int (y1)), some (.int (y2)), some (.int (y3)), some (.int (y4)), some (.int (y5)), some (.int (y6 + 1))]) dX6_choiceAfter_69 rfl (by decide) (by decide) rfl rfl ?_
          refine gm_goto (tgt := 7) dX6_choiceAfter_72 (by decide) ?_
          exact gm_weak (lsub_s (lsub_s (lsub_s (lsub_s (lsub_s (lsub_s (lsub_s lsub_0))))))) (hrc7 q3.2 y1 y2 y3 y4 y5 (y6 + 1))
        · exact gm_weak (lsub_s (lsub_s (lsub_s (lsub_s (lsub_s (lsub_s (lsub_s lsub_0))))))) (k_X6_choiceAfter_45 n hn rc7 hrc7 q3.2 y1 y2 y3 y4 y5 y6)
noncomputable def h_X6_choiceAfter_7 (n : Nat) : Nat → (Wd → Int32 → Int32 → Int32 → Int32 → Int32 → Int32 → Option (Int32 × Wd))
  | 0 => fun _ _ _ _ _ _ _ => none
  | fu + 1 => b_X6_choiceAfter_7 n   (h_X6_choiceAfter_7 n   fu)
set_option maxRecDepth 100000 in
set_option maxHeartbeats 4000000 in
theorem k_X6_choiceAfter_7 {l : Launch} {E : En} (n : Nat) (hn : n < 7) : ∀ (fu : Nat) (w : Wd) (y1 : Int32) (y2 : Int32) (y3 : Int32) (y4 : Int32) (y5 : Int32) (y6 : Int32), Gm l E cX6_choiceAfter 7 RX6 (some .int) (rmk (3)) eI (h_X6_choiceAfter_7 n   fu w y1 y2 y3 y4 y5 y6) w 7 [some (.ref (E.1 n 3)), some (.int (y1)), some (.int (y2)), some (.int (y3)), some (.int (y4)), some (.int (y5)), some (.int (y6))] []
  | 0, _, _, _, _, _, _, _ => gm_none
  | fu + 1, w, y1, y2, y3, y4, y5, y6 => kb_X6_choiceAfter_7 n hn   (h_X6_choiceAfter_7 n   fu)  (fun w y1 y2 y3 y4 y5 y6 => k_X6_choiceAfter_7 n hn    fu w y1 y2 y3 y4 y5 y6) w y1 y2 y3 y4 y5 y6
noncomputable def f_X6_choiceAfter (n : Nat) (w : Wd) (x1 : Int32) (x2 : Int32) (x3 : Int32) (x4 : Int32) : Option (Int32 × Wd) :=
  h_X6_choiceAfter_7 n FU w x1 x2 x3 x4 (-9) 0
set_option maxRecDepth 100000 in
set_option maxHeartbeats 4000000 in
theorem t_X6_choiceAfter {l : Launch} {E : En} (n : Nat) (hn : n < 7) (w : Wd) (x1 : Int32) (x2 : Int32) (x3 : Int32) (x4 : Int32) : ∀ q, f_X6_choiceAfter  n w x1 x2 x3 x4 = some q → Mt l E yX6_choiceAfter cX6_choiceAfter 7 (some .int) (rmk 3) [.ref (E.1 n 3), .int (x1), .int (x2), .int (x3), .int (x4)] w (eI q.1) q.2 := by
  refine Mt.of [some (.ref (E.1 n 3)), some (.int (x1)), some (.int (x2)), some (.int (x3)), some (.int (x4)), none, none] (plainFor_of_name pn_X6) rfl (Nat.le_of_ble_eq_true rfl) rfl ?_
  unfold f_X6_choiceAfter
  refine gm_bipush (v := (-9)) dX6_choiceAfter_0 (by decide) ?_
  refine gm_istore (lv' := [some (.ref (E.1 n 3)), some (.int (x1)), some (.int (x2)), some (.int (x3)), some (.int (x4)), some (.int ((-9))), none]) dX6_choiceAfter_2 (by decide) rfl rfl ?_
  refine gm_iconst (v := 0) dX6_choiceAfter_4 (by decide) ?_
  refine gm_istore (lv' := [some (.ref (E.1 n 3)), some (.int (x1)), some (.int (x2)), some (.int (x3)), some (.int (x4)), some (.int ((-9))), some (.int (0))]) dX6_choiceAfter_5 (by decide) rfl rfl ?_
  exact gm_weak (lsub_s (lsub_s (lsub_s (lsub_s (lsub_s (lsub_s (lsub_s lsub_0))))))) (k_X6_choiceAfter_7 n hn FU w x1 x2 x3 x4 (-9) 0)

noncomputable def f_X6_hasFreeLine (n : Nat) (w : Wd) (x1 : Int32) : Option (Int32 × Wd) :=
  if (p_X6_has n w x1) = 0 then
    some (0, w)
  else
    if ib x1 40 = true then
    if ib x1 40 = true then
    if (w n 8 (Int32.toNatClampNeg x1)) ≤ (w n 9 (Int32.toNatClampNeg x1)) then
      some (0, w)
    else
      some (1, w)
    else none
    else none
set_option maxRecDepth 100000 in
set_option maxHeartbeats 4000000 in
theorem t_X6_hasFreeLine {l : Launch} {E : En} (n : Nat) (hn : n < 7) (w : Wd) (x1 : Int32) : ∀ q, f_X6_hasFreeLine  n w x1 = some q → Mt l E yX6_hasFreeLine cX6_hasFreeLine 2 (some .boolean) (rmk 2) [.ref (E.1 n 3), .int (x1)] w (eI q.1) q.2 := by
  refine Mt.of [some (.ref (E.1 n 3)), some (.int (x1))] (plainFor_of_name pn_X6) rfl (Nat.le_of_ble_eq_true rfl) rfl ?_
  unfold f_X6_hasFreeLine
  refine gm_aload_n dX6_hasFreeLine_0 rfl rfl ?_
  refine gm_iload_n dX6_hasFreeLine_1 rfl rfl ?_
  refine gm_callVk (As := [.int (x1)]) dX6_hasFreeLine_2 (tk_X6_has n hn w x1) (ce_n_3 (n := n) hn) rfl cy_X6_has tb_432 rfl rfl (rm_ok (by decide) (by decide)) (Nat.le_of_ble_eq_true rfl) ?_
  refine gm_if_eq (tgt := 27) dX6_hasFreeLine_5 (by decide) ?_ ?_
  · refine gm_iconst (v := 0) dX6_hasFreeLine_27 (by decide) ?_
    exact gm_zret dX6_hasFreeLine_28 rfl
  · refine gm_aload_n dX6_hasFreeLine_8 rfl rfl ?_
    refine gm_get dX6_hasFreeLine_9 (ce_n_3 (n := n) hn) rfl inX6 5 (by decide) tb_96 rfl rfl ?_
    refine gm_iload_n dX6_hasFreeLine_12 rfl rfl ?_
    refine gm_iald dX6_hasFreeLine_13 (ce_n_9 (n := n) hn) ?_
    refine gm_aload_n dX6_hasFreeLine_14 rfl rfl ?_
    refine gm_get dX6_hasFreeLine_15 (ce_n_3 (n := n) hn) rfl inX6 4 (by decide) tb_95 rfl rfl ?_
    refine gm_iload_n dX6_hasFreeLine_18 rfl rfl ?_
    refine gm_iald dX6_hasFreeLine_19 (ce_n_8 (n := n) hn) ?_
    refine gm_icmp_ge (tgt := 27) dX6_hasFreeLine_20 (by decide) ?_ ?_
    · refine gm_iconst (v := 0) dX6_hasFreeLine_27 (by decide) ?_
      exact gm_zret dX6_hasFreeLine_28 rfl
    · refine gm_iconst (v := 1) dX6_hasFreeLine_23 (by decide) ?_
      refine gm_goto (tgt := 28) dX6_hasFreeLine_24 (by decide) ?_
      exact gm_zret dX6_hasFreeLine_28 rfl

noncomputable def f_X6_switchOf (n : Nat) (w : Wd) (x1 : Int32) : Option (Int32 × Wd) :=
  if (p_X6_has n w x1) = 0 then
    some ((-9), w)
  else
    if ib x1 40 = true then
    some (w n 4 (Int32.toNatClampNeg x1), w)
    else none
set_option maxRecDepth 100000 in
set_option maxHeartbeats 4000000 in
theorem t_X6_switchOf {l : Launch} {E : En} (n : Nat) (hn : n < 7) (w : Wd) (x1 : Int32) : ∀ q, f_X6_switchOf  n w x1 = some q → Mt l E yX6_switchOf cX6_switchOf 2 (some .int) (rmk 2) [.ref (E.1 n 3), .int (x1)] w (eI q.1) q.2 := by
  refine Mt.of [some (.ref (E.1 n 3)), some (.int (x1))] (plainFor_of_name pn_X6) rfl (Nat.le_of_ble_eq_true rfl) rfl ?_
  unfold f_X6_switchOf
  refine gm_aload_n dX6_switchOf_0 rfl rfl ?_
  refine gm_iload_n dX6_switchOf_1 rfl rfl ?_
  refine gm_callVk (As := [.int (x1)]) dX6_switchOf_2 (tk_X6_has n hn w x1) (ce_n_3 (n := n) hn) rfl cy_X6_has tb_432 rfl rfl (rm_ok (by decide) (by decide)) (Nat.le_of_ble_eq_true rfl) ?_
  refine gm_if_eq (tgt := 17) dX6_switchOf_5 (by decide) ?_ ?_
  · refine gm_bipush (v := (-9)) dX6_switchOf_17 (by decide) ?_
    exact gm_iret dX6_switchOf_19
  · refine gm_aload_n dX6_switchOf_8 rfl rfl ?_
    refine gm_get dX6_switchOf_9 (ce_n_3 (n := n) hn) rfl inX6 0 (by decide) tb_91 rfl rfl ?_
    refine gm_iload_n dX6_switchOf_12 rfl rfl ?_
    refine gm_iald dX6_switchOf_13 (ce_n_4 (n := n) hn) ?_
    refine gm_goto (tgt := 19) dX6_switchOf_14 (by decide) ?_
    exact gm_iret dX6_switchOf_19

noncomputable def f_X6_occupy (n : Nat) (w : Wd) (x1 : Int32) : Option (Unit × Wd) :=
  if (p_X6_has n w x1) = 0 then
    some ((), w)
  else
    (f_X6_serves n w x1).bind fun q1 =>
    if q1.1 = 0 then
      if ib x1 40 = true then
      if ib x1 40 = true then
      letw (wup q1.2 n 9 (Int32.toNatClampNeg x1) ((q1.2 n 9 (Int32.toNatClampNeg x1)) + 1)) fun w2 =>
      some ((), w2)
      else none
      else none
    else
      some ((), q1.2)
set_option maxRecDepth 100000 in
set_option maxHeartbeats 4000000 in
theorem t_X6_occupy {l : Launch} {E : En} (n : Nat) (hn : n < 7) (w : Wd) (x1 : Int32) : ∀ q, f_X6_occupy  n w x1 = some q → Mt l E yX6_occupy cX6_occupy 2 none (rmk 3) [.ref (E.1 n 3), .int (x1)] w (eV q.1) q.2 := by
  refine Mt.of [some (.ref (E.1 n 3)), some (.int (x1))] (plainFor_of_name pn_X6) rfl (Nat.le_of_ble_eq_true rfl) rfl ?_
  unfold f_X6_occupy
  refine gm_aload_n dX6_occupy_0 rfl rfl ?_
  refine gm_iload_n dX6_occupy_1 rfl rfl ?_
  refine gm_callVk (As := [.int (x1)]) dX6_occupy_2 (tk_X6_has n hn w x1) (ce_n_3 (n := n) hn) rfl cy_X6_has tb_432 rfl rfl (rm_ok (by decide) (by decide)) (Nat.le_of_ble_eq_true rfl) ?_
  refine gm_if_eq (tgt := 26) dX6_occupy_5 (by decide) ?_ ?_
  · exact gm_vret dX6_occupy_26
  · refine gm_aload_n dX6_occupy_8 rfl rfl ?_
    refine gm_iload_n dX6_occupy_9 rfl rfl ?_
    refine gm_callVi (As := [.int (x1)]) dX6_occupy_10 (t_X6_serves n hn w x1) (ce_n_3 (n := n) hn) rfl cy_X6_serves tb_630 rfl rfl (rm_ok (by decide) (by decide)) (Nat.le_of_ble_eq_true rfl) (fun q1 => ?_)
    refine gm_if_ne (tgt := 26) dX6_occupy_13 (by decide) ?_ ?_
    · exact gm_vret dX6_occupy_26
    · refine gm_aload_n dX6_occupy_16 rfl rfl ?_
      refine gm_get dX6_occupy_17 (ce_n_3 (n := n) hn) rfl inX6 5 (by decide) tb_96 rfl rfl ?_
      refine gm_iload_n dX6_occupy_20 rfl rfl ?_
      refine gm_dup2 dX6_occupy_21 rfl rfl ?_
      refine gm_iald dX6_occupy_22 (ce_n_9 (n := n) hn) ?_
      refine gm_iconst (v := 1) dX6_occupy_23 (by decide) ?_
      refine gm_iadd dX6_occupy_24 ?_
      refine gm_iast dX6_occupy_25 (ce_n_9 (n := n) hn) (fun w2 => ?_)
      exact gm_vret dX6_occupy_26

noncomputable def f_X6_release (n : Nat) (w : Wd) (x1 : Int32) : Option (Unit × Wd) :=
  if (p_X6_has n w x1) = 0 then
    some ((), w)
  else
    (f_X6_serves n w x1).bind fun q1 =>
    if q1.1 = 0 then
      if ib x1 40 = true then
      if ib x1 40 = true then
      letw (wup q1.2 n 9 (Int32.toNatClampNeg x1) ((q1.2 n 9 (Int32.toNatClampNeg x1)) - 1)) fun w2 =>
      some ((), w2)
      else none
      else none
    else
      some ((), q1.2)
set_option maxRecDepth 100000 in
set_option maxHeartbeats 4000000 in
theorem t_X6_release {l : Launch} {E : En} (n : Nat) (hn : n < 7) (w : Wd) (x1 : Int32) : ∀ q, f_X6_release  n w x1 = some q → Mt l E yX6_release cX6_release 2 none (rmk 3) [.ref (E.1 n 3), .int (x1)] w (eV q.1) q.2 := by
  refine Mt.of [some (.ref (E.1 n 3)), some (.int (x1))] (plainFor_of_name pn_X6) rfl (Nat.le_of_ble_eq_true rfl) rfl ?_
  unfold f_X6_release
  refine gm_aload_n dX6_release_0 rfl rfl ?_
  refine gm_iload_n dX6_release_1 rfl rfl ?_
  refine gm_callVk (As := [.int (x1)]) dX6_release_2 (tk_X6_has n hn w x1) (ce_n_3 (n := n) hn) rfl cy_X6_has tb_432 rfl rfl (rm_ok (by decide) (by decide)) (Nat.le_of_ble_eq_true rfl) ?_
  refine gm_if_eq (tgt := 26) dX6_release_5 (by decide) ?_ ?_
  · exact gm_vret dX6_release_26
  · refine gm_aload_n dX6_release_8 rfl rfl ?_
    refine gm_iload_n dX6_release_9 rfl rfl ?_
    refine gm_callVi (As := [.int (x1)]) dX6_release_10 (t_X6_serves n hn w x1) (ce_n_3 (n := n) hn) rfl cy_X6_serves tb_630 rfl rfl (rm_ok (by decide) (by decide)) (Nat.le_of_ble_eq_true rfl) (fun q1 => ?_)
    refine gm_if_ne (tgt := 26) dX6_release_13 (by decide) ?_ ?_
    · exact gm_vret dX6_release_26
    · refine gm_aload_n dX6_release_16 rfl rfl ?_
      refine gm_get dX6_release_17 (ce_n_3 (n := n) hn) rfl inX6 5 (by decide) tb_96 rfl rfl ?_
      refine gm_iload_n dX6_release_20 rfl rfl ?_
      refine gm_dup2 dX6_release_21 rfl rfl ?_
      refine gm_iald dX6_release_22 (ce_n_9 (n := n) hn) ?_
      refine gm_iconst (v := 1) dX6_release_23 (by decide) ?_
      refine gm_isub dX6_release_24 ?_
      refine gm_iast dX6_release_25 (ce_n_9 (n := n) hn) (fun w2 => ?_)
      exact gm_vret dX6_release_26

noncomputable def f_X6_changeCost (n : Nat) (w : Wd) (x1 : Int32) (x2 : Int32) (x3 : Int32) : Option (Int32 × Wd) :=
  if (p_X6_has n w x1) = 0 then
    some ((-1), w)
  else
    if (p_X9_inRange w x2 0 2) = 0 then
      some ((-1), w)
    else
      if ib ((x1 * 3) + x2) 120 = true then
      leti (w n 7 (Int32.toNatClampNeg ((x1 * 3) + x2))) fun u1 =>
      if ib ((x1 * 3) + x2) 120 = true then
      letw (wup w n 7 (Int32.toNatClampNeg ((x1 * 3) + x2)) x3) fun w2 =>
      some (u1, w2)
      else none
      else none
set_option maxRecDepth 100000 in
set_option maxHeartbeats 4000000 in
theorem t_X6_changeCost {l : Launch} {E : En} (n : Nat) (hn : n < 7) (w : Wd) (x1 : Int32) (x2 : Int32) (x3 : Int32) : ∀ q, f_X6_changeCost  n w x1 x2 x3 = some q → Mt l E yX6_changeCost cX6_changeCost 5 (some .int) (rmk 2) [.ref (E.1 n 3), .int (x1), .int (x2), .int (x3)] w (eI q.1) q.2 := by
  refine Mt.of [some (.ref (E.1 n 3)), some (.int (x1)), some (.int (x2)), some (.int (x3)), none] (plainFor_of_name pn_X6) rfl (Nat.le_of_ble_eq_true rfl) rfl ?_
  unfold f_X6_changeCost
  refine gm_aload_n dX6_changeCost_0 rfl rfl ?_
  refine gm_iload_n dX6_changeCost_1 rfl rfl ?_
  refine gm_callVk (As := [.int (x1)]) dX6_changeCost_2 (tk_X6_has n hn w x1) (ce_n_3 (n := n) hn) rfl cy_X6_has tb_432 rfl rfl (rm_ok (by decide) (by decide)) (Nat.le_of_ble_eq_true rfl) ?_
  refine gm_if_eq (tgt := 17) dX6_changeCost_5 (by decide) ?_ ?_
  · refine gm_iconst (v := (-1)) dX6_changeCost_17 (by decide) ?_
    exact gm_iret dX6_changeCost_18
  · refine gm_iload_n dX6_changeCost_8 rfl rfl ?_
    refine gm_iconst (v := 0) dX6_changeCost_9 (by decide) ?_
    refine gm_iconst (v := 2) dX6_changeCost_10 (by decide) ?_
    refine gm_callNk (As := [.int (x2), .int (0), .int (2)]) dX6_changeCost_11 (tk_X9_inRange w x2 0 2) cy_X9_inRange tb_433 rfl rfl (rm_ok (by decide) (by decide)) (Nat.le_of_ble_eq_true rfl) ?_
    refine gm_if_ne (tgt := 19) dX6_changeCost_14 (by decide) ?_ ?_
    · refine gm_aload_n dX6_changeCost_19 rfl rfl ?_
      refine gm_get dX6_changeCost_20 (ce_n_3 (n := n) hn) rfl inX6 3 (by decide) tb_94 rfl rfl ?_
      refine gm_iload_n dX6_changeCost_23 rfl rfl ?_
      refine gm_iconst (v := 3) dX6_changeCost_24 (by decide) ?_
      refine gm_imul dX6_changeCost_25 ?_
      refine gm_iload_n dX6_changeCost_26 rfl rfl ?_
      refine gm_iadd dX6_changeCost_27 ?_
      refine gm_iald dX6_changeCost_28 (ce_n_7 (n := n) hn) ?_
      refine gm_leti_st (fun u1 => ?_)
      refine gm_istore (lv' := [some (.ref (E.1 n 3)), some (.int (x1)), some (.int (x2)), some (.int (x3)), some (.int (u1))]) dX6_changeCost_29 (by decide) rfl rfl ?_
      refine gm_aload_n dX6_changeCost_31 rfl rfl ?_
      refine gm_get dX6_changeCost_32 (ce_n_3 (n := n) hn) rfl inX6 3 (by decide) tb_94 rfl rfl ?_
      refine gm_iload_n dX6_changeCost_35 rfl rfl ?_
      refine gm_iconst (v := 3) dX6_changeCost_36 (by decide) ?_
      refine gm_imul dX6_changeCost_37 ?_
      refine gm_iload_n dX6_changeCost_38 rfl rfl ?_
      refine gm_iadd dX6_changeCost_39 ?_
      refine gm_iload_n dX6_changeCost_40 rfl rfl ?_
      refine gm_iast dX6_changeCost_41 (ce_n_7 (n := n) hn) (fun w2 => ?_)
      refine gm_iload dX6_changeCost_42 rfl ?_
      exact gm_iret dX6_changeCost_44
    · refine gm_iconst (v := (-1)) dX6_changeCost_17 (by decide) ?_
      exact gm_iret dX6_changeCost_18

noncomputable def f_X6_numberOf (n : Nat) (w : Wd) (x1 : Int32) (x2 : Int32) : Option (Int32 × Wd) :=
  if (p_X6_has n w x1) = 0 then
    some ((-1), w)
  else
    if x2 = 0 then
      if ib x1 40 = true then
      some (w n 4 (Int32.toNatClampNeg x1), w)
      else none
    else
      if x2 = 1 then
        if ib x1 40 = true then
        some (w n 5 (Int32.toNatClampNeg x1), w)
        else none
      else
        if x2 = 2 then
          if ib x1 40 = true then
          some (w n 6 (Int32.toNatClampNeg x1), w)
          else none
        else
          if x2 = 3 then
            (f_X6_costOf n w x1 (3 - 3)).bind fun q1 =>
            some (q1.1, q1.2)
          else
            if x2 = 4 then
              (f_X6_costOf n w x1 (4 - 3)).bind fun q2 =>
              some (q2.1, q2.2)
            else
              if x2 = 5 then
                (f_X6_costOf n w x1 (5 - 3)).bind fun q3 =>
                some (q3.1, q3.2)
              else
                if x2 = 6 then
                  if ib x1 40 = true then
                  some (w n 8 (Int32.toNatClampNeg x1), w)
                  else none
                else
                  if x2 = 7 then
                    if ib x1 40 = true then
                    some (w n 9 (Int32.toNatClampNeg x1), w)
                    else none
                  else
                    some ((-1), w)
set_option maxRecDepth 100000 in
set_option maxHeartbeats 4000000 in
theorem t_X6_numberOf {l : Launch} {E : En} (n : Nat) (hn : n < 7) (w : Wd) (x1 : Int32) (x2 : Int32) : ∀ q, f_X6_numberOf  n w x1 x2 = some q → Mt l E yX6_numberOf cX6_numberOf 3 (some .int) (rmk 2) [.ref (E.1 n 3), .int (x1), .int (x2)] w (eI q.1) q.2 := by
  refine Mt.of [some (.ref (E.1 n 3)), some (.int (x1)), some (.int (x2))] (plainFor_of_name pn_X6) rfl (Nat.le_of_ble_eq_true rfl) rfl ?_
  unfold f_X6_numberOf
  refine gm_aload_n dX6_numberOf_0 rfl rfl ?_
  refine gm_iload_n dX6_numberOf_1 rfl rfl ?_
  refine gm_callVk (As := [.int (x1)]) dX6_numberOf_2 (tk_X6_has n hn w x1) (ce_n_3 (n := n) hn) rfl cy_X6_has tb_432 rfl rfl (rm_ok (by decide) (by decide)) (Nat.le_of_ble_eq_true rfl) ?_
  refine gm_if_ne (tgt := 10) dX6_numberOf_5 (by decide) ?_ ?_
  · refine gm_iload_n dX6_numberOf_10 rfl rfl ?_
    refine gm_ite (fun hc0 => ?_) (fun hc0 => ?_)
    · rw [hc0]
      refine gm_tblIn (off := 45) (tgt := 56) dX6_numberOf_11 (by decide) (by decide) (by decide) (by decide) ?_
      refine gm_aload_n dX6_numberOf_56 rfl rfl ?_
      refine gm_get dX6_numberOf_57 (ce_n_3 (n := n) hn) rfl inX6 0 (by decide) tb_91 rfl rfl ?_
      refine gm_iload_n dX6_numberOf_60 rfl rfl ?_
      refine gm_iald dX6_numberOf_61 (ce_n_4 (n := n) hn) ?_
      exact gm_iret dX6_numberOf_62
    · skip
      refine gm_ite (fun hc1 => ?_) (fun hc1 => ?_)
      · rw [hc1]
        refine gm_tblIn (off := 52) (tgt := 63) dX6_numberOf_11 (by decide) (by decide) (by decide) (by decide) ?_
        refine gm_aload_n dX6_numberOf_63 rfl rfl ?_
        refine gm_get dX6_numberOf_64 (ce_n_3 (n := n) hn) rfl inX6 1 (by decide) tb_92 rfl rfl ?_
        refine gm_iload_n dX6_numberOf_67 rfl rfl ?_
        refine gm_iald dX6_numberOf_68 (ce_n_5 (n := n) hn) ?_
        exact gm_iret dX6_numberOf_69
      · skip
        refine gm_ite (fun hc2 => ?_) (fun hc2 => ?_)
        · rw [hc2]
          refine gm_tblIn (off := 59) (tgt := 70) dX6_numberOf_11 (by decide) (by decide) (by decide) (by decide) ?_
          refine gm_aload_n dX6_numberOf_70 rfl rfl ?_
          refine gm_get dX6_numberOf_71 (ce_n_3 (n := n) hn) rfl inX6 2 (by decide) tb_93 rfl rfl ?_
          refine gm_iload_n dX6_numberOf_74 rfl rfl ?_
          refine gm_iald dX6_numberOf_75 (ce_n_6 (n := n) hn) ?_
          exact gm_iret dX6_numberOf_76
        · skip
          refine gm_ite (fun hc3 => ?_) (fun hc3 => ?_)
          · rw [hc3]
            refine gm_tblIn (off := 66) (tgt := 77) dX6_numberOf_11 (by decide) (by decide) (by decide) (by decide) ?_
            refine gm_aload_n dX6_numberOf_77 rfl rfl ?_
            refine gm_iload_n dX6_numberOf_78 rfl rfl ?_
            refine gm_iload_n dX6_numberOf_79 rfl rfl ?_
            refine gm_iconst (v := 3) dX6_numberOf_80 (by decide) ?_
            refine gm_isub dX6_numberOf_81 ?_
            refine gm_callVi (As := [.int (x1), .int (3 - 3)]) dX6_numberOf_82 (t_X6_costOf n hn w x1 (3 - 3)) (ce_n_3 (n := n) hn) rfl cy_X6_costOf tb_557 rfl rfl (rm_ok (by decide) (by decide)) (Nat.le_of_ble_eq_true rfl) (fun q1 => ?_)
            exact gm_iret dX6_numberOf_85
          · skip
            refine gm_ite (fun hc4 => ?_) (fun hc4 => ?_)
            · rw [hc4]
              refine gm_tblIn (off := 66) (tgt := 77) dX6_numberOf_11 (by decide) (by decide) (by decide) (by decide) ?_
              refine gm_aload_n dX6_numberOf_77 rfl rfl ?_
              refine gm_iload_n dX6_numberOf_78 rfl rfl ?_
              refine gm_iload_n dX6_numberOf_79 rfl rfl ?_
              refine gm_iconst (v := 3) dX6_numberOf_80 (by decide) ?_
              refine gm_isub dX6_numberOf_81 ?_
              refine gm_callVi (As := [.int (x1), .int (4 - 3)]) dX6_numberOf_82 (t_X6_costOf n hn w x1 (4 - 3)) (ce_n_3 (n := n) hn) rfl cy_X6_costOf tb_557 rfl rfl (rm_ok (by decide) (by decide)) (Nat.le_of_ble_eq_true rfl) (fun q2 => ?_)
              exact gm_iret dX6_numberOf_85
            · skip
              refine gm_ite (fun hc5 => ?_) (fun hc5 => ?_)
              · rw [hc5]
                refine gm_tblIn (off := 66) (tgt := 77) dX6_numberOf_11 (by decide) (by decide) (by decide) (by decide) ?_
                refine gm_aload_n dX6_numberOf_77 rfl rfl ?_
                refine gm_iload_n dX6_numberOf_78 rfl rfl ?_
                refine gm_iload_n dX6_numberOf_79 rfl rfl ?_
                refine gm_iconst (v := 3) dX6_numberOf_80 (by decide) ?_
                refine gm_isub dX6_numberOf_81 ?_
                refine gm_callVi (As := [.int (x1), .int (5 - 3)]) dX6_numberOf_82 (t_X6_costOf n hn w x1 (5 - 3)) (ce_n_3 (n := n) hn) rfl cy_X6_costOf tb_557 rfl rfl (rm_ok (by decide) (by decide)) (Nat.le_of_ble_eq_true rfl) (fun q3 => ?_)
                exact gm_iret dX6_numberOf_85
              · skip
                refine gm_ite (fun hc6 => ?_) (fun hc6 => ?_)
                · rw [hc6]
                  refine gm_tblIn (off := 75) (tgt := 86) dX6_numberOf_11 (by decide) (by decide) (by decide) (by decide) ?_
                  refine gm_aload_n dX6_numberOf_86 rfl rfl ?_
                  refine gm_get dX6_numberOf_87 (ce_n_3 (n := n) hn) rfl inX6 4 (by decide) tb_95 rfl rfl ?_
                  refine gm_iload_n dX6_numberOf_90 rfl rfl ?_
                  refine gm_iald dX6_numberOf_91 (ce_n_8 (n := n) hn) ?_
                  exact gm_iret dX6_numberOf_92
                · skip
                  refine gm_ite (fun hc7 => ?_) (fun hc7 => ?_)
                  · rw [hc7]
                    refine gm_tblIn (off := 82) (tgt := 93) dX6_numberOf_11 (by decide) (by decide) (by decide) (by decide) ?_
                    refine gm_aload_n dX6_numberOf_93 rfl rfl ?_
                    refine gm_get dX6_numberOf_94 (ce_n_3 (n := n) hn) rfl inX6 5 (by decide) tb_96 rfl rfl ?_
                    refine gm_iload_n dX6_numberOf_97 rfl rfl ?_
                    refine gm_iald dX6_numberOf_98 (ce_n_9 (n := n) hn) ?_
                    exact gm_iret dX6_numberOf_99
                  · skip
                    refine gm_tblOut (tgt := 100) dX6_numberOf_11 (by decide) (tblOut8 hc0 hc1 hc2 hc3 hc4 hc5 hc6 hc7) ?_
                    refine gm_iconst (v := (-1)) dX6_numberOf_100 (by decide) ?_
                    exact gm_iret dX6_numberOf_101
  · refine gm_iconst (v := (-1)) dX6_numberOf_8 (by decide) ?_
    exact gm_iret dX6_numberOf_9

noncomputable def b_X6_fold_17 (n : Nat) (rc5 : Wd → Int64 → Int32 → Option (Int64 × Wd)) (rc17 : Wd → Int64 → Int32 → Int32 → Option (Int64 × Wd)) (w : Wd) (y3 : Int64) (y5 : Int32) (y6 : Int32) : Option (Int64 × Wd) :=
  if 8 ≤ y6 then
    rc5 w y3 (y5 + 1)
  else
    (f_X6_numberOf n w y5 y6).bind fun q1 =>
    letl ((31 * y3) + (Int32.toInt64 q1.1)) fun u2 =>
    rc17 q1.2 u2 y5 (y6 + 1)
set_option maxRecDepth 100000 in
set_option maxHeartbeats 4000000 in
theorem kb_X6_fold_17 {l : Launch} {E : En} (n : Nat) (hn : n < 7) (rc5 : Wd → Int64 → Int32 → Option (Int64 × Wd)) (rc17 : Wd → Int64 → Int32 → Int32 → Option (Int64 × Wd)) (hrc5 : ∀ (w : Wd) (y3 : Int64) (y5 : Int32), Gm l E cX6_fold 7 RX6 (some .long) (rmk (3)) eL (rc5 w y3 y5) w 5 [some (.ref (E.1 n 3)), none, none, some (.long (y3)), none, some (.int (y5)), none] []) (hrc17 : ∀ (w : Wd) (y3 : Int64) (y5 : Int32) (y6 : Int32), Gm l E cX6_fold 7 RX6 (some .long) (rmk (3)) eL (rc17 w y3 y5 y6) w 17 [some (.ref (E.1 n 3)), none, none, some (.long (y3)), none, some (.int (y5)), some (.int (y6))] []) (w : Wd) (y3 : Int64) (y5 : Int32) (y6 : Int32) : Gm l E cX6_fold 7 RX6 (some .long) (rmk (3)) eL (b_X6_fold_17 n  rc5 rc17 w y3 y5 y6) w 17 [some (.ref (E.1 n 3)), none, none, some (.long (y3)), none, some (.int (y5)), some (.int (y6))] [] := by
  unfold b_X6_fold_17
  refine gm_iload dX6_fold_17 rfl ?_
  refine gm_bipush (v := 8) dX6_fold_19 (by decide) ?_
  refine gm_icmp_ge (tgt := 46) dX6_fold_21 (by decide) ?_ ?_
  · refine gm_iinc (v := 1) (lv' := [some (.ref (E.1 n 3)), none, none, some (.long (y3)), none, some (.int (y5 + 1)), some (.int (y6))]) dX6_fold_46 rfl (by decide) (by decide) rfl rfl ?_
    refine gm_goto (tgt := 5) dX6_fold_49 (by decide) ?_
    exact gm_weak (lsub_s (lsub_n (lsub_n (lsub_s (lsub_n (lsub_s (lsub_n lsub_0))))))) (hrc5 w y3 (y5 + 1))
  · refine gm_ldc2 (v := 31) dX6_fold_24 tb_928 ?_
    refine gm_lload_n dX6_fold_27 rfl rfl ?_
    refine gm_lmul dX6_fold_28 ?_
    refine gm_aload_n dX6_fold_29 rfl rfl ?_
    refine gm_iload dX6_fold_30 rfl ?_
    refine gm_iload dX6_fold_32 rfl ?_
    refine gm_callVi (As := [.int (y5), .int (y6)]) dX6_fold_34 (t_X6_numberOf n hn w y5 y6) (ce_n_3 (n := n) hn) rfl cy_X6_numberOf tb_929 rfl rfl (rm_ok (by decide) (by decide)) (Nat.le_of_ble_eq_true rfl) (fun q1 => ?_)
    refine gm_i2l dX6_fold_37 ?_
    refine gm_ladd dX6_fold_38 ?_
    refine gm_letl_st (fun u2 => ?_)
    refine gm_lstore_n (lv' := [some (.ref (E.1 n 3)), none, none, some (.long (u2)), none, some (.int (y5)), some (.int (y6))]) dX6_fold_39 rfl (by decide) rfl rfl ?_
    refine gm_iinc (v := 1) (lv' := [some (.ref (E.1 n 3)), none, none, some (.long (u2)), none, some (.int (y5)), some (.int (y6 + 1))]) dX6_fold_40 rfl (by decide) (by decide) rfl rfl ?_
    refine gm_goto (tgt := 17) dX6_fold_43 (by decide) ?_
    exact gm_weak (lsub_s (lsub_n (lsub_n (lsub_s (lsub_n (lsub_s (lsub_s lsub_0))))))) (hrc17 q1.2 u2 y5 (y6 + 1))
noncomputable def h_X6_fold_17 (n : Nat) (rc5 : Wd → Int64 → Int32 → Option (Int64 × Wd)) : Nat → (Wd → Int64 → Int32 → Int32 → Option (Int64 × Wd))
  | 0 => fun _ _ _ _ => none
  | fu + 1 => b_X6_fold_17 n  rc5 (h_X6_fold_17 n  rc5 fu)
set_option maxRecDepth 100000 in
set_option maxHeartbeats 4000000 in
theorem k_X6_fold_17 {l : Launch} {E : En} (n : Nat) (hn : n < 7) (rc5 : Wd → Int64 → Int32 → Option (Int64 × Wd)) (hrc5 : ∀ (w : Wd) (y3 : Int64) (y5 : Int32), Gm l E cX6_fold 7 RX6 (some .long) (rmk (3)) eL (rc5 w y3 y5) w 5 [some (.ref (E.1 n 3)), none, none, some (.long (y3)), none, some (.int (y5)), none] []) : ∀ (fu : Nat) (w : Wd) (y3 : Int64) (y5 : Int32) (y6 : Int32), Gm l E cX6_fold 7 RX6 (some .long) (rmk (3)) eL (h_X6_fold_17 n  rc5 fu w y3 y5 y6) w 17 [some (.ref (E.1 n 3)), none, none, some (.long (y3)), none, some (.int (y5)), some (.int (y6))] []
  | 0, _, _, _, _ => gm_none
  | fu + 1, w, y3, y5, y6 => kb_X6_fold_17 n hn  rc5 (h_X6_fold_17 n  rc5 fu) hrc5 (fun w y3 y5 y6 => k_X6_fold_17 n hn  rc5 hrc5 fu w y3 y5 y6) w y3 y5 y6
noncomputable def b_X6_fold_5 (n : Nat) (rc5 : Wd → Int64 → Int32 → Option (Int64 × Wd)) (w : Wd) (y3 : Int64) (y5 : Int32) : Option (Int64 × Wd) :=
  if (w n 3 6) ≤ y5 then
    some (y3, w)
  else
    h_X6_fold_17 n rc5 FU w y3 y5 0
set_option maxRecDepth 100000 in
set_option maxHeartbeats 4000000 in
theorem kb_X6_fold_5 {l : Launch} {E : En} (n : Nat) (hn : n < 7) (rc5 : Wd → Int64 → Int32 → Option (Int64 × Wd)) (hrc5 : ∀ (w : Wd) (y3 : Int64) (y5 : Int32), Gm l E cX6_fold 7 RX6 (some .long) (rmk (3)) eL (rc5 w y3 y5) w 5 [some (.ref (E.1 n 3)), none, none, some (.long (y3)), none, some (.int (y5)), none] []) (w : Wd) (y3 : Int64) (y5 : Int32) : Gm l E cX6_fold 7 RX6 (some .long) (rmk (3)) eL (b_X6_fold_5 n  rc5 w y3 y5) w 5 [some (.ref (E.1 n 3)), none, none, some (.long (y3)), none, some (.int (y5)), none] [] := by
  unfold b_X6_fold_5
  refine gm_iload dX6_fold_5 rfl ?_
  refine gm_aload_n dX6_fold_7 rfl rfl ?_
  refine gm_get dX6_fold_8 (ce_n_3 (n := n) hn) rfl inX6 6 (by decide) tb_97 rfl rfl ?_
  refine gm_icmp_ge (tgt := 52) dX6_fold_11 (by decide) ?_ ?_
  · refine gm_lload_n dX6_fold_52 rfl rfl ?_
    exact gm_lret dX6_fold_53
  · refine gm_iconst (v := 0) dX6_fold_14 (by decide) ?_
    refine gm_istore (lv' := [some (.ref (E.1 n 3)), none, none, some (.long (y3)), none, some (.int (y5)), some (.int (0))]) dX6_fold_15 (by decide) rfl rfl ?_
    exact gm_weak (lsub_s (lsub_n (lsub_n (lsub_s (lsub_n (lsub_s (lsub_s lsub_0))))))) (k_X6_fold_17 n hn rc5 hrc5 FU w y3 y5 0)
noncomputable def h_X6_fold_5 (n : Nat) : Nat → (Wd → Int64 → Int32 → Option (Int64 × Wd))
  | 0 => fun _ _ _ => none
  | fu + 1 => b_X6_fold_5 n   (h_X6_fold_5 n   fu)
set_option maxRecDepth 100000 in
set_option maxHeartbeats 4000000 in
theorem k_X6_fold_5 {l : Launch} {E : En} (n : Nat) (hn : n < 7) : ∀ (fu : Nat) (w : Wd) (y3 : Int64) (y5 : Int32), Gm l E cX6_fold 7 RX6 (some .long) (rmk (3)) eL (h_X6_fold_5 n   fu w y3 y5) w 5 [some (.ref (E.1 n 3)), none, none, some (.long (y3)), none, some (.int (y5)), none] []
  | 0, _, _, _ => gm_none
  | fu + 1, w, y3, y5 => kb_X6_fold_5 n hn   (h_X6_fold_5 n   fu)  (fun w y3 y5 => k_X6_fold_5 n hn    fu w y3 y5) w y3 y5
noncomputable def f_X6_fold (n : Nat) (w : Wd) (x1 : Int64) : Option (Int64 × Wd) :=
  h_X6_fold_5 n FU w x1 0
set_option maxRecDepth 100000 in
set_option maxHeartbeats 4000000 in
theorem t_X6_fold {l : Launch} {E : En} (n : Nat) (hn : n < 7) (w : Wd) (x1 : Int64) : ∀ q, f_X6_fold  n w x1 = some q → Mt l E yX6_fold cX6_fold 7 (some .long) (rmk 3) [.ref (E.1 n 3), .long (x1)] w (eL q.1) q.2 := by
  refine Mt.of [some (.ref (E.1 n 3)), some (.long (x1)), none, none, none, none, none] (plainFor_of_name pn_X6) rfl (Nat.le_of_ble_eq_true rfl) rfl ?_
  unfold f_X6_fold
  refine gm_lload_n dX6_fold_0 rfl rfl ?_
  refine gm_lstore_n (lv' := [some (.ref (E.1 n 3)), some (.long (x1)), none, some (.long (x1)), none, none, none]) dX6_fold_1 rfl (by decide) rfl rfl ?_
  refine gm_iconst (v := 0) dX6_fold_2 (by decide) ?_
  refine gm_istore (lv' := [some (.ref (E.1 n 3)), some (.long (x1)), none, some (.long (x1)), none, some (.int (0)), none]) dX6_fold_3 (by decide) rfl rfl ?_
  exact gm_weak (lsub_s (lsub_n (lsub_n (lsub_s (lsub_n (lsub_s (lsub_n lsub_0))))))) (k_X6_fold_5 n hn FU w x1 0)

noncomputable def b_X6_put_43 (n : Nat) (rc43 : Wd → Int32 → Int32 → Int32 → Int32 → Option (Int32 × Wd)) (w : Wd) (y4 : Int32) (y5 : Int32) (y6 : Int32) (y7 : Int32) : Option (Int32 × Wd) :=
  if 3 ≤ y7 then
    if ib y6 40 = true then
    letw (wup w n 8 (Int32.toNatClampNeg y6) y5) fun w5 =>
    if ib y6 40 = true then
    letw (wup w5 n 9 (Int32.toNatClampNeg y6) 0) fun w6 =>
    letw (wup w6 n 3 6 (y6 + 1)) fun w7 =>
    some (y6, w7)
    else none
    else none
  else
    if ib ((y6 * 3) + y7) 120 = true then
    letw (wup w n 7 (Int32.toNatClampNeg ((y6 * 3) + y7)) y4) fun w8 =>
    rc43 w8 y4 y5 y6 (y7 + 1)
    else none
set_option maxRecDepth 100000 in
set_option maxHeartbeats 4000000 in
theorem kb_X6_put_43 {l : Launch} {E : En} (n : Nat) (hn : n < 7) (rc43 : Wd → Int32 → Int32 → Int32 → Int32 → Option (Int32 × Wd)) (hrc43 : ∀ (w : Wd) (y4 : Int32) (y5 : Int32) (y6 : Int32) (y7 : Int32), Gm l E cX6_put 8 RX6 (some .int) (rmk (1)) eI (rc43 w y4 y5 y6 y7) w 43 [some (.ref (E.1 n 3)), none, none, none, some (.int (y4)), some (.int (y5)), some (.int (y6)), some (.int (y7))] []) (w : Wd) (y4 : Int32) (y5 : Int32) (y6 : Int32) (y7 : Int32) : Gm l E cX6_put 8 RX6 (some .int) (rmk (1)) eI (b_X6_put_43 n  rc43 w y4 y5 y6 y7) w 43 [some (.ref (E.1 n 3)), none, none, none, some (.int (y4)), some (.int (y5)), some (.int (y6)), some (.int (y7))] [] := by
  unfold b_X6_put_43
  refine gm_iload dX6_put_43 rfl ?_
  refine gm_iconst (v := 3) dX6_put_45 (by decide) ?_
  refine gm_icmp_ge (tgt := 69) dX6_put_46 (by decide) ?_ ?_
  · refine gm_aload_n dX6_put_69 rfl rfl ?_
    refine gm_get dX6_put_70 (ce_n_3 (n := n) hn) rfl inX6 4 (by decide) tb_95 rfl rfl ?_
    refine gm_iload dX6_put_73 rfl ?_
    refine gm_iload dX6_put_75 rfl ?_
    refine gm_iast dX6_put_77 (ce_n_8 (n := n) hn) (fun w5 => ?_)
    refine gm_aload_n dX6_put_78 rfl rfl ?_
    refine gm_get dX6_put_79 (ce_n_3 (n := n) hn) rfl inX6 5 (by decide) tb_96 rfl rfl ?_
    refine gm_iload dX6_put_82 rfl ?_
    refine gm_iconst (v := 0) dX6_put_84 (by decide) ?_
    refine gm_iast dX6_put_85 (ce_n_9 (n := n) hn) (fun w6 => ?_)
    refine gm_aload_n dX6_put_86 rfl rfl ?_
    refine gm_iload dX6_put_87 rfl ?_
    refine gm_iconst (v := 1) dX6_put_89 (by decide) ?_
    refine gm_iadd dX6_put_90 ?_
    refine gm_put dX6_put_91 (ce_n_3 (n := n) hn) rfl inX6 tyX6 tyX6_ok nmX6 6 (by decide) tb_97 rfl rfl (by decide +kernel) (fun _ => rfl) (fun _ => rfl) (fun w7 => ?_)
    refine gm_iload dX6_put_94 rfl ?_
    exact gm_iret dX6_put_96
  · refine gm_aload_n dX6_put_49 rfl rfl ?_
    refine gm_get dX6_put_50 (ce_n_3 (n := n) hn) rfl inX6 3 (by decide) tb_94 rfl rfl ?_
    refine gm_iload dX6_put_53 rfl ?_
    refine gm_iconst (v := 3) dX6_put_55 (by decide) ?_
    refine gm_imul dX6_put_56 ?_
    refine gm_iload dX6_put_57 rfl ?_
    refine gm_iadd dX6_put_59 ?_
    refine gm_iload dX6_put_60 rfl ?_
    refine gm_iast dX6_put_62 (ce_n_7 (n := n) hn) (fun w8 => ?_)
    refine gm_iinc (v := 1) (lv' := [some (.ref (E.1 n 3)), none, none, none, some (.int (y4)), some (.int (y5)), some (.int (y6)), some (.int (y7 + 1))]) dX6_put_63 rfl (by decide) (by decide) rfl rfl ?_
    refine gm_goto (tgt := 43) dX6_put_66 (by decide) ?_
    exact gm_weak (lsub_s (lsub_n (lsub_n (lsub_n (lsub_s (lsub_s (lsub_s (lsub_s lsub_0)))))))) (hrc43 w8 y4 y5 y6 (y7 + 1))
noncomputable def h_X6_put_43 (n : Nat) : Nat → (Wd → Int32 → Int32 → Int32 → Int32 → Option (Int32 × Wd))
  | 0 => fun _ _ _ _ _ => none
  | fu + 1 => b_X6_put_43 n   (h_X6_put_43 n   fu)
set_option maxRecDepth 100000 in
set_option maxHeartbeats 4000000 in
theorem k_X6_put_43 {l : Launch} {E : En} (n : Nat) (hn : n < 7) : ∀ (fu : Nat) (w : Wd) (y4 : Int32) (y5 : Int32) (y6 : Int32) (y7 : Int32), Gm l E cX6_put 8 RX6 (some .int) (rmk (1)) eI (h_X6_put_43 n   fu w y4 y5 y6 y7) w 43 [some (.ref (E.1 n 3)), none, none, none, some (.int (y4)), some (.int (y5)), some (.int (y6)), some (.int (y7))] []
  | 0, _, _, _, _, _ => gm_none
  | fu + 1, w, y4, y5, y6, y7 => kb_X6_put_43 n hn   (h_X6_put_43 n   fu)  (fun w y4 y5 y6 y7 => k_X6_put_43 n hn    fu w y4 y5 y6 y7) w y4 y5 y6 y7
noncomputable def f_X6_put (n : Nat) (w : Wd) (x1 : Int32) (x2 : Int32) (x3 : Int32) (x4 : Int32) (x5 : Int32) : Option (Int32 × Wd) :=
  leti (w n 3 6) fun u1 =>
  if u1 < 40 then
    if ib u1 40 = true then
    letw (wup w n 4 (Int32.toNatClampNeg u1) x1) fun w2 =>
    if ib u1 40 = true then
    letw (wup w2 n 5 (Int32.toNatClampNeg u1) x2) fun w3 =>
    if ib u1 40 = true then
    letw (wup w3 n 6 (Int32.toNatClampNeg u1) x3) fun w4 =>
    h_X6_put_43 n FU w4 x4 x5 u1 0
    else none
    else none
    else none
  else
    some ((-3), w)
set_option maxRecDepth 100000 in
set_option maxHeartbeats 4000000 in
theorem t_X6_put {l : Launch} {E : En} (n : Nat) (hn : n < 7) (w : Wd) (x1 : Int32) (x2 : Int32) (x3 : Int32) (x4 : Int32) (x5 : Int32) : ∀ q, f_X6_put  n w x1 x2 x3 x4 x5 = some q → Mt l E yX6_put cX6_put 8 (some .int) (rmk 1) [.ref (E.1 n 3), .int (x1), .int (x2), .int (x3), .int (x4), .int (x5)] w (eI q.1) q.2 := by
  refine Mt.of [some (.ref (E.1 n 3)), some (.int (x1)), some (.int (x2)), some (.int (x3)), some (.int (x4)), some (.int (x5)), none, none] (plainFor_of_name pn_X6) rfl (Nat.le_of_ble_eq_true rfl) rfl ?_
  unfold f_X6_put
  refine gm_aload_n dX6_put_0 rfl rfl ?_
  refine gm_get dX6_put_1 (ce_n_3 (n := n) hn) rfl inX6 6 (by decide) tb_97 rfl rfl ?_
  refine gm_leti_st (fun u1 => ?_)
  refine gm_istore (lv' := [some (.ref (E.1 n 3)), some (.int (x1)), some (.int (x2)), some (.int (x3)), some (.int (x4)), some (.int (x5)), some (.int (u1)), none]) dX6_put_4 (by decide) rfl rfl ?_
  refine gm_iload dX6_put_6 rfl ?_
  refine gm_bipush (v := 40) dX6_put_8 (by decide) ?_
  refine gm_icmp_lt (tgt := 16) dX6_put_10 (by decide) ?_ ?_
  · refine gm_aload_n dX6_put_16 rfl rfl ?_
    refine gm_get dX6_put_17 (ce_n_3 (n := n) hn) rfl inX6 0 (by decide) tb_91 rfl rfl ?_
    refine gm_iload dX6_put_20 rfl ?_
    refine gm_iload_n dX6_put_22 rfl rfl ?_
    refine gm_iast dX6_put_23 (ce_n_4 (n := n) hn) (fun w2 => ?_)
    refine gm_aload_n dX6_put_24 rfl rfl ?_
    refine gm_get dX6_put_25 (ce_n_3 (n := n) hn) rfl inX6 1 (by decide) tb_92 rfl rfl ?_
    refine gm_iload dX6_put_28 rfl ?_
    refine gm_iload_n dX6_put_30 rfl rfl ?_
    refine gm_iast dX6_put_31 (ce_n_5 (n := n) hn) (fun w3 => ?_)
    refine gm_aload_n dX6_put_32 rfl rfl ?_
    refine gm_get dX6_put_33 (ce_n_3 (n := n) hn) rfl inX6 2 (by decide) tb_93 rfl rfl ?_
    refine gm_iload dX6_put_36 rfl ?_
    refine gm_iload_n dX6_put_38 rfl rfl ?_
    refine gm_iast dX6_put_39 (ce_n_6 (n := n) hn) (fun w4 => ?_)
    refine gm_iconst (v := 0) dX6_put_40 (by decide) ?_
    refine gm_istore (lv' := [some (.ref (E.1 n 3)), some (.int (x1)), some (.int (x2)), some (.int (x3)), some (.int (x4)), some (.int (x5)), some (.int (u1)), some (.int (0))]) dX6_put_41 (by decide) rfl rfl ?_
    exact gm_weak (lsub_s (lsub_n (lsub_n (lsub_n (lsub_s (lsub_s (lsub_s (lsub_s lsub_0)))))))) (k_X6_put_43 n hn FU w4 x4 x5 u1 0)
  · refine gm_bipush (v := (-3)) dX6_put_13 (by decide) ?_
    exact gm_iret dX6_put_15
