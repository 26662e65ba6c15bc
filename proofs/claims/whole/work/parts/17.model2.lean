noncomputable def j_X10_settles_74 (w : Wd) (y1 : Int32) (y2 : Int32) (z0 : Int32) : Option (Int32 × Wd) :=
  if y1 = 0 then
    some (y1, w)
  else
    if y1 = 6 then
      some (y1, w)
    else
      if z0 = 0 then
        some (y1, w)
      else
        if y2 = 0 then
          if ib (w 8 0 12) 8 = true then
          if ib (w 8 0 12) 8 = true then
          letw (wup w 8 9 (Int32.toNatClampNeg (w 8 0 12)) ((w 8 9 (Int32.toNatClampNeg (w 8 0 12))) + 1)) fun w2 =>
          some ((-1), w2)
          else none
          else none
        else
          some (y1, w)
set_option maxRecDepth 100000 in
set_option maxHeartbeats 4000000 in
theorem k_X10_settles_74 {l : Launch} {E : En} (w : Wd) (y1 : Int32) (y2 : Int32) (z0 : Int32) : Gm l E cX10_settles 4 RX10 (some .int) (rmk (1)) eI (j_X10_settles_74    w y1 y2 z0) w 74 [some (.ref (E.1 8 0)), some (.int (y1)), some (.int (y2)), none] [.int (z0)] := by
  unfold j_X10_settles_74
  refine gm_istore_n (lv' := [some (.ref (E.1 8 0)), some (.int (y1)), some (.int (y2)), some (.int (z0))]) dX10_settles_74 rfl (by decide) rfl rfl ?_
  refine gm_iload_n dX10_settles_75 rfl rfl ?_
  refine gm_if_eq (tgt := 93) dX10_settles_76 (by decide) ?_ ?_
  · refine gm_iload_n dX10_settles_93 rfl rfl ?_
    exact gm_iret dX10_settles_94
  · refine gm_iload_n dX10_settles_79 rfl rfl ?_
    refine gm_bipush (v := 6) dX10_settles_80 (by decide) ?_
    refine gm_icmp_eq (tgt := 93) dX10_settles_82 (by decide) ?_ ?_
    · refine gm_iload_n dX10_settles_93 rfl rfl ?_
      exact gm_iret dX10_settles_94
    · refine gm_iload_n dX10_settles_85 rfl rfl ?_
      refine gm_if_eq (tgt := 93) dX10_settles_86 (by decide) ?_ ?_
      · refine gm_iload_n dX10_settles_93 rfl rfl ?_
        exact gm_iret dX10_settles_94
      · refine gm_iload_n dX10_settles_89 rfl rfl ?_
        refine gm_if_eq (tgt := 95) dX10_settles_90 (by decide) ?_ ?_
        · refine gm_aload_n dX10_settles_95 rfl rfl ?_
          refine gm_get dX10_settles_96 ce_8_0 rfl inX10 10 (by decide) tb_954 rfl rfl ?_
          refine gm_aload_n dX10_settles_99 rfl rfl ?_
          refine gm_get dX10_settles_100 ce_8_0 rfl inX10 12 (by decide) tb_956 rfl rfl ?_
          refine gm_dup2 dX10_settles_103 rfl rfl ?_
          refine gm_iald dX10_settles_104 ce_8_9 ?_
          refine gm_iconst (v := 1) dX10_settles_105 (by decide) ?_
          refine gm_iadd dX10_settles_106 ?_
          refine gm_iast dX10_settles_107 ce_8_9 (fun w2 => ?_)
          refine gm_iconst (v := (-1)) dX10_settles_108 (by decide) ?_
          exact gm_iret dX10_settles_109
        · refine gm_iload_n dX10_settles_93 rfl rfl ?_
          exact gm_iret dX10_settles_94
noncomputable def j_X10_settles_43 (w : Wd) (y1 : Int32) (z0 : Int32) : Option (Int32 × Wd) :=
  if ib (w 8 0 12) 8 = true then
  if ib (18 + (w 8 5 (Int32.toNatClampNeg (w 8 0 12)))) 640 = true then
  if (((w 8 1 (Int32.toNatClampNeg (18 + (w 8 5 (Int32.toNatClampNeg (w 8 0 12)))))) >>> (y1 &&& 31)) &&& 1) = 1 then
    j_X10_settles_74 w y1 z0 1
  else
    j_X10_settles_74 w y1 z0 0
  else none
  else none
set_option maxRecDepth 100000 in
set_option maxHeartbeats 4000000 in
theorem k_X10_settles_43 {l : Launch} {E : En} (w : Wd) (y1 : Int32) (z0 : Int32) : Gm l E cX10_settles 4 RX10 (some .int) (rmk (1)) eI (j_X10_settles_43    w y1 z0) w 43 [some (.ref (E.1 8 0)), some (.int (y1)), none, none] [.int (z0)] := by
  unfold j_X10_settles_43
  refine gm_istore_n (lv' := [some (.ref (E.1 8 0)), some (.int (y1)), some (.int (z0)), none]) dX10_settles_43 rfl (by decide) rfl rfl ?_
  refine gm_aload_n dX10_settles_44 rfl rfl ?_
  refine gm_get dX10_settles_45 ce_8_0 rfl inX10 0 (by decide) tb_944 rfl rfl ?_
  refine gm_bipush (v := 18) dX10_settles_48 (by decide) ?_
  refine gm_aload_n dX10_settles_50 rfl rfl ?_
  refine gm_get dX10_settles_51 ce_8_0 rfl inX10 6 (by decide) tb_950 rfl rfl ?_
  refine gm_aload_n dX10_settles_54 rfl rfl ?_
  refine gm_get dX10_settles_55 ce_8_0 rfl inX10 12 (by decide) tb_956 rfl rfl ?_
  refine gm_iald dX10_settles_58 ce_8_5 ?_
  refine gm_iadd dX10_settles_59 ?_
  refine gm_iald dX10_settles_60 ce_8_1 ?_
  refine gm_iload_n dX10_settles_61 rfl rfl ?_
  refine gm_ishr dX10_settles_62 ?_
  refine gm_iconst (v := 1) dX10_settles_63 (by decide) ?_
  refine gm_iand dX10_settles_64 ?_
  refine gm_iconst (v := 1) dX10_settles_65 (by decide) ?_
  refine gm_icmp_ne (tgt := 73) dX10_settles_66 (by decide) ?_ ?_
  · refine gm_iconst (v := 0) dX10_settles_73 (by decide) ?_
    exact gm_weak (lsub_s (lsub_s (lsub_s (lsub_n lsub_0)))) (k_X10_settles_74 w y1 z0 0)
  · refine gm_iconst (v := 1) dX10_settles_69 (by decide) ?_
    refine gm_goto (tgt := 74) dX10_settles_70 (by decide) ?_
    exact gm_weak (lsub_s (lsub_s (lsub_s (lsub_n lsub_0)))) (k_X10_settles_74 w y1 z0 1)
noncomputable def f_X10_settles (w : Wd) (x1 : Int32) : Option (Int32 × Wd) :=
  if ib (w 8 0 12) 8 = true then
  if ib (w 8 10 (Int32.toNatClampNeg (w 8 0 12))) 30 = true then
  letw (wup w 8 12 (Int32.toNatClampNeg (w 8 10 (Int32.toNatClampNeg (w 8 0 12)))) x1) fun w1 =>
  if ib (w1 8 0 12) 8 = true then
  if ib (w1 8 0 12) 8 = true then
  if (w1 8 9 (Int32.toNatClampNeg (w1 8 0 12))) = ((w1 8 8 (Int32.toNatClampNeg (w1 8 0 12))) - 1) then
    j_X10_settles_43 w1 x1 1
  else
    j_X10_settles_43 w1 x1 0
  else none
  else none
  else none
  else none
set_option maxRecDepth 100000 in
set_option maxHeartbeats 4000000 in
theorem t_X10_settles {l : Launch} {E : En} (w : Wd) (x1 : Int32) : ∀ q, f_X10_settles   w x1 = some q → Mt l E yX10_settles cX10_settles 4 (some .int) (rmk 1) [.ref (E.1 8 0), .int (x1)] w (eI q.1) q.2 := by
  refine Mt.of [some (.ref (E.1 8 0)), some (.int (x1)), none, none] (plainFor_of_name pn_X10) rfl (Nat.le_of_ble_eq_true rfl) rfl ?_
  unfold f_X10_settles
  refine gm_aload_n dX10_settles_0 rfl rfl ?_
  refine gm_get dX10_settles_1 ce_8_0 rfl inX10 14 (by decide) tb_958 rfl rfl ?_
  refine gm_aload_n dX10_settles_4 rfl rfl ?_
  refine gm_get dX10_settles_5 ce_8_0 rfl inX10 11 (by decide) tb_955 rfl rfl ?_
  refine gm_aload_n dX10_settles_8 rfl rfl ?_
  refine gm_get dX10_settles_9 ce_8_0 rfl inX10 12 (by decide) tb_956 rfl rfl ?_
  refine gm_iald dX10_settles_12 ce_8_10 ?_
  refine gm_iload_n dX10_settles_13 rfl rfl ?_
  refine gm_iast dX10_settles_14 ce_8_12 (fun w1 => ?_)
  refine gm_aload_n dX10_settles_15 rfl rfl ?_
  refine gm_get dX10_settles_16 ce_8_0 rfl inX10 10 (by decide) tb_954 rfl rfl ?_
  refine gm_aload_n dX10_settles_19 rfl rfl ?_
  refine gm_get dX10_settles_20 ce_8_0 rfl inX10 12 (by decide) tb_956 rfl rfl ?_
  refine gm_iald dX10_settles_23 ce_8_9 ?_
  refine gm_aload_n dX10_settles_24 rfl rfl ?_
  refine gm_get dX10_settles_25 ce_8_0 rfl inX10 9 (by decide) tb_953 rfl rfl ?_
  refine gm_aload_n dX10_settles_28 rfl rfl ?_
  refine gm_get dX10_settles_29 ce_8_0 rfl inX10 12 (by decide) tb_956 rfl rfl ?_
  refine gm_iald dX10_settles_32 ce_8_8 ?_
  refine gm_iconst (v := 1) dX10_settles_33 (by decide) ?_
  refine gm_isub dX10_settles_34 ?_
  refine gm_icmp_ne (tgt := 42) dX10_settles_35 (by decide) ?_ ?_
  · refine gm_iconst (v := 0) dX10_settles_42 (by decide) ?_
    exact gm_weak (lsub_s (lsub_s (lsub_n (lsub_n lsub_0)))) (k_X10_settles_43 w1 x1 0)
  · refine gm_iconst (v := 1) dX10_settles_38 (by decide) ?_
    refine gm_goto (tgt := 43) dX10_settles_39 (by decide) ?_
    exact gm_weak (lsub_s (lsub_s (lsub_n (lsub_n lsub_0)))) (k_X10_settles_43 w1 x1 1)

noncomputable def b_X10_connects_15 (rc15 : Wd → Int32 → Option (Unit × Wd)) (w : Wd) (y1 : Int32) : Option (Unit × Wd) :=
  if y1 < (w 8 0 12) then
    some ((), w)
  else
    (f_X10_atHand w).bind fun q4 =>
    if ib (w 8 0 17) 8 = true then
    letw (wup q4.2 8 13 (Int32.toNatClampNeg (w 8 0 17)) q4.1) fun w5 =>
    if ib (w5 8 0 12) 8 = true then
    if ib (w5 8 10 (Int32.toNatClampNeg (w5 8 0 12))) 30 = true then
    letw (wup w5 8 12 (Int32.toNatClampNeg (w5 8 10 (Int32.toNatClampNeg (w5 8 0 12)))) 0) fun w6 =>
    letw (wup w6 8 0 17 ((w6 8 0 17) + 1)) fun w7 =>
    letw (wup w7 8 0 12 ((w7 8 0 12) + 1)) fun w8 =>
    rc15 w8 y1
    else none
    else none
    else none
set_option maxRecDepth 100000 in
set_option maxHeartbeats 4000000 in
theorem kb_X10_connects_15 {l : Launch} {E : En} (rc15 : Wd → Int32 → Option (Unit × Wd)) (hrc15 : ∀ (w : Wd) (y1 : Int32), Gm l E cX10_connects 2 RX10 none (rmk (2)) eV (rc15 w y1) w 15 [some (.ref (E.1 8 0)), some (.int (y1))] []) (w : Wd) (y1 : Int32) : Gm l E cX10_connects 2 RX10 none (rmk (2)) eV (b_X10_connects_15   rc15 w y1) w 15 [some (.ref (E.1 8 0)), some (.int (y1))] [] := by
  unfold b_X10_connects_15
  refine gm_aload_n dX10_connects_15 rfl rfl ?_
  refine gm_get dX10_connects_16 ce_8_0 rfl inX10 12 (by decide) tb_956 rfl rfl ?_
  refine gm_iload_n dX10_connects_19 rfl rfl ?_
  refine gm_icmp_gt (tgt := 74) dX10_connects_20 (by decide) ?_ ?_
  · exact gm_vret dX10_connects_74
  · refine gm_aload_n dX10_connects_23 rfl rfl ?_
    refine gm_get dX10_connects_24 ce_8_0 rfl inX10 16 (by decide) tb_960 rfl rfl ?_
    refine gm_aload_n dX10_connects_27 rfl rfl ?_
    refine gm_get dX10_connects_28 ce_8_0 rfl inX10 17 (by decide) tb_961 rfl rfl ?_
    refine gm_aload_n dX10_connects_31 rfl rfl ?_
    refine gm_callVi (As := []) dX10_connects_32 (t_X10_atHand w) ce_8_0 rfl cy_X10_atHand tb_1134 rfl rfl (rm_ok (by decide) (by decide)) (Nat.le_of_ble_eq_true rfl) (fun q4 => ?_)
    refine gm_iast dX10_connects_35 ce_8_13 (fun w5 => ?_)
    refine gm_aload_n dX10_connects_36 rfl rfl ?_
    refine gm_get dX10_connects_37 ce_8_0 rfl inX10 14 (by decide) tb_958 rfl rfl ?_
    refine gm_aload_n dX10_connects_40 rfl rfl ?_
    refine gm_get dX10_connects_41 ce_8_0 rfl inX10 11 (by decide) tb_955 rfl rfl ?_
    refine gm_aload_n dX10_connects_44 rfl rfl ?_
    refine gm_get dX10_connects_45 ce_8_0 rfl inX10 12 (by decide) tb_956 rfl rfl ?_
    refine gm_iald dX10_connects_48 ce_8_10 ?_
    refine gm_iconst (v := 0) dX10_connects_49 (by decide) ?_
    refine gm_iast dX10_connects_50 ce_8_12 (fun w6 => ?_)
    refine gm_aload_n dX10_connects_51 rfl rfl ?_
    refine gm_dup dX10_connects_52 rfl ?_
    refine gm_get dX10_connects_53 ce_8_0 rfl inX10 17 (by decide) tb_961 rfl rfl ?_
    refine gm_iconst (v := 1) dX10_connects_56 (by decide) ?_
    refine gm_iadd dX10_connects_57 ?_
    refine gm_put dX10_connects_58 ce_8_0 rfl inX10 tyX10 tyX10_ok nmX10 17 (by decide) tb_961 rfl rfl (by decide +kernel) (fun _ => rfl) (fun _ => rfl) (fun w7 => ?_)
    refine gm_aload_n dX10_connects_61 rfl rfl ?_
    refine gm_dup dX10_connects_62 rfl ?_
    refine gm_get dX10_connects_63 ce_8_0 rfl inX10 12 (by decide) tb_956 rfl rfl ?_
    refine gm_iconst (v := 1) dX10_connects_66 (by decide) ?_
    refine gm_iadd dX10_connects_67 ?_
    refine gm_put dX10_connects_68 ce_8_0 rfl inX10 tyX10 tyX10_ok nmX10 12 (by decide) tb_956 rfl rfl (by decide +kernel) (fun _ => rfl) (fun _ => rfl) (fun w8 => ?_)
    refine gm_goto (tgt := 15) dX10_connects_71 (by decide) ?_
    exact gm_weak (lsub_s (lsub_s lsub_0)) (hrc15 w8 y1)
noncomputable def h_X10_connects_15 : Nat → (Wd → Int32 → Option (Unit × Wd))
  | 0 => fun _ _ => none
  | fu + 1 => b_X10_connects_15    (h_X10_connects_15    fu)
set_option maxRecDepth 100000 in
set_option maxHeartbeats 4000000 in
theorem k_X10_connects_15 {l : Launch} {E : En} : ∀ (fu : Nat) (w : Wd) (y1 : Int32), Gm l E cX10_connects 2 RX10 none (rmk (2)) eV (h_X10_connects_15    fu w y1) w 15 [some (.ref (E.1 8 0)), some (.int (y1))] []
  | 0, _, _ => gm_none
  | fu + 1, w, y1 => kb_X10_connects_15     (h_X10_connects_15    fu)  (fun w y1 => k_X10_connects_15      fu w y1) w y1
noncomputable def f_X10_connects (w : Wd) : Option (Unit × Wd) :=
  letw (wup w 8 0 17 0) fun w1 =>
  leti (w1 8 0 12) fun u2 =>
  letw (wup w1 8 0 12 0) fun w3 =>
  h_X10_connects_15 FU w3 u2
set_option maxRecDepth 100000 in
set_option maxHeartbeats 4000000 in
theorem t_X10_connects {l : Launch} {E : En} (w : Wd) : ∀ q, f_X10_connects   w  = some q → Mt l E yX10_connects cX10_connects 2 none (rmk 2) [.ref (E.1 8 0)] w (eV q.1) q.2 := by
  refine Mt.of [some (.ref (E.1 8 0)), none] (plainFor_of_name pn_X10) rfl (Nat.le_of_ble_eq_true rfl) rfl ?_
  unfold f_X10_connects
  refine gm_aload_n dX10_connects_0 rfl rfl ?_
  refine gm_iconst (v := 0) dX10_connects_1 (by decide) ?_
  refine gm_put dX10_connects_2 ce_8_0 rfl inX10 tyX10 tyX10_ok nmX10 17 (by decide) tb_961 rfl rfl (by decide +kernel) (fun _ => rfl) (fun _ => rfl) (fun w1 => ?_)
  refine gm_aload_n dX10_connects_5 rfl rfl ?_
  refine gm_get dX10_connects_6 ce_8_0 rfl inX10 12 (by decide) tb_956 rfl rfl ?_
  refine gm_leti_st (fun u2 => ?_)
  refine gm_istore_n (lv' := [some (.ref (E.1 8 0)), some (.int (u2))]) dX10_connects_9 rfl (by decide) rfl rfl ?_
  refine gm_aload_n dX10_connects_10 rfl rfl ?_
  refine gm_iconst (v := 0) dX10_connects_11 (by decide) ?_
  refine gm_put dX10_connects_12 ce_8_0 rfl inX10 tyX10 tyX10_ok nmX10 12 (by decide) tb_956 rfl rfl (by decide +kernel) (fun _ => rfl) (fun _ => rfl) (fun w3 => ?_)
  exact gm_weak (lsub_s (lsub_s lsub_0)) (k_X10_connects_15 FU w3 u2)

noncomputable def j_X10_places_79 (rc36 : Wd → Int32 → Int32 → Option (Int32 × Wd)) (w : Wd) (y2 : Int32) (y4 : Int32) (z0 : Int32) : Option (Int32 × Wd) :=
  if y4 = 0 then
    if z0 = (-1) then
      rc36 w y2 z0
    else
      (f_X10_settles w z0).bind fun q9 =>
      rc36 q9.2 y2 q9.1
  else
    (f_X10_leaves w z0).bind fun q10 =>
    if 0 ≤ ((q10.2) 8 0 12) then
      (f_X10_settles q10.2 z0).bind fun q11 =>
      rc36 q11.2 y2 q11.1
    else
      rc36 q10.2 y2 z0
set_option maxRecDepth 100000 in
set_option maxHeartbeats 4000000 in
theorem k_X10_places_79 {l : Launch} {E : En} (rc36 : Wd → Int32 → Int32 → Option (Int32 × Wd)) (hrc36 : ∀ (w : Wd) (y2 : Int32) (y3 : Int32), Gm l E cX10_places 5 RX10 (some .int) (rmk (6)) eI (rc36 w y2 y3) w 36 [some (.ref (E.1 8 0)), none, some (.int (y2)), some (.int (y3)), none] []) (w : Wd) (y2 : Int32) (y4 : Int32) (z0 : Int32) : Gm l E cX10_places 5 RX10 (some .int) (rmk (6)) eI (j_X10_places_79   rc36 w y2 y4 z0) w 79 [some (.ref (E.1 8 0)), none, some (.int (y2)), none, some (.int (y4))] [.int (z0)] := by
  unfold j_X10_places_79
  refine gm_istore_n (lv' := [some (.ref (E.1 8 0)), none, some (.int (y2)), some (.int (z0)), some (.int (y4))]) dX10_places_79 rfl (by decide) rfl rfl ?_
  refine gm_iload dX10_places_80 rfl ?_
  refine gm_if_eq (tgt := 110) dX10_places_82 (by decide) ?_ ?_
  · refine gm_iload_n dX10_places_110 rfl rfl ?_
    refine gm_iconst (v := (-1)) dX10_places_111 (by decide) ?_
    refine gm_icmp_eq (tgt := 121) dX10_places_112 (by decide) ?_ ?_
    · refine gm_goto (tgt := 36) dX10_places_121 (by decide) ?_
      exact gm_weak (lsub_s (lsub_n (lsub_s (lsub_s (lsub_n lsub_0))))) (hrc36 w y2 z0)
    · refine gm_aload_n dX10_places_115 rfl rfl ?_
      refine gm_iload_n dX10_places_116 rfl rfl ?_
      refine gm_callVi (As := [.int (z0)]) dX10_places_117 (t_X10_settles w z0) ce_8_0 rfl cy_X10_settles tb_1146 rfl rfl (rm_ok (by decide) (by decide)) (Nat.le_of_ble_eq_true rfl) (fun q9 => ?_)
      refine gm_istore_n (lv' := [some (.ref (E.1 8 0)), none, some (.int (y2)), some (.int (q9.1)), some (.int (y4))]) dX10_places_120 rfl (by decide) rfl rfl ?_
      refine gm_goto (tgt := 36) dX10_places_121 (by decide) ?_
      exact gm_weak (lsub_s (lsub_n (lsub_s (lsub_s (lsub_n lsub_0))))) (hrc36 q9.2 y2 q9.1)
  · refine gm_aload_n dX10_places_85 rfl rfl ?_
    refine gm_iload_n dX10_places_86 rfl rfl ?_
    refine gm_callVv (As := [.int (z0)]) dX10_places_87 (t_X10_leaves w z0) ce_8_0 rfl cy_X10_leaves tb_1142 rfl rfl (rm_ok (by decide) (by decide)) (Nat.le_of_ble_eq_true rfl) (fun q10 => ?_)
    refine gm_aload_n dX10_places_90 rfl rfl ?_
    refine gm_get dX10_places_91 ce_8_0 rfl inX10 12 (by decide) tb_956 rfl rfl ?_
    refine gm_if_ge (tgt := 101) dX10_places_94 (by decide) ?_ ?_
    · refine gm_aload_n dX10_places_101 rfl rfl ?_
      refine gm_iload_n dX10_places_102 rfl rfl ?_
      refine gm_callVi (As := [.int (z0)]) dX10_places_103 (t_X10_settles q10.2 z0) ce_8_0 rfl cy_X10_settles tb_1146 rfl rfl (rm_ok (by decide) (by decide)) (Nat.le_of_ble_eq_true rfl) (fun q11 => ?_)
      refine gm_istore_n (lv' := [some (.ref (E.1 8 0)), none, some (.int (y2)), some (.int (q11.1)), some (.int (y4))]) dX10_places_106 rfl (by decide) rfl rfl ?_
      refine gm_goto (tgt := 121) dX10_places_107 (by decide) ?_
      refine gm_goto (tgt := 36) dX10_places_121 (by decide) ?_
      exact gm_weak (lsub_s (lsub_n (lsub_s (lsub_s (lsub_n lsub_0))))) (hrc36 q11.2 y2 q11.1)
    · refine gm_iload_n dX10_places_97 rfl rfl ?_
      refine gm_goto (tgt := 106) dX10_places_98 (by decide) ?_
      refine gm_istore_n (lv' := [some (.ref (E.1 8 0)), none, some (.int (y2)), some (.int (z0)), some (.int (y4))]) dX10_places_106 rfl (by decide) rfl rfl ?_
      refine gm_goto (tgt := 121) dX10_places_107 (by decide) ?_
      refine gm_goto (tgt := 36) dX10_places_121 (by decide) ?_
      exact gm_weak (lsub_s (lsub_n (lsub_s (lsub_s (lsub_n lsub_0))))) (hrc36 q10.2 y2 z0)
noncomputable def j_X10_places_62 (rc36 : Wd → Int32 → Int32 → Option (Int32 × Wd)) (w : Wd) (y2 : Int32) (z0 : Int32) : Option (Int32 × Wd) :=
  if z0 = 0 then
    (f_X10_tries w y2).bind fun q8 =>
    j_X10_places_79 rc36 q8.2 y2 z0 q8.1
  else
    j_X10_places_79 rc36 w y2 z0 6
set_option maxRecDepth 100000 in
set_option maxHeartbeats 4000000 in
theorem k_X10_places_62 {l : Launch} {E : En} (rc36 : Wd → Int32 → Int32 → Option (Int32 × Wd)) (hrc36 : ∀ (w : Wd) (y2 : Int32) (y3 : Int32), Gm l E cX10_places 5 RX10 (some .int) (rmk (6)) eI (rc36 w y2 y3) w 36 [some (.ref (E.1 8 0)), none, some (.int (y2)), some (.int (y3)), none] []) (w : Wd) (y2 : Int32) (z0 : Int32) : Gm l E cX10_places 5 RX10 (some .int) (rmk (6)) eI (j_X10_places_62   rc36 w y2 z0) w 62 [some (.ref (E.1 8 0)), none, some (.int (y2)), none, none] [.int (z0)] := by
  unfold j_X10_places_62
  refine gm_istore (lv' := [some (.ref (E.1 8 0)), none, some (.int (y2)), none, some (.int (z0))]) dX10_places_62 (by decide) rfl rfl ?_
  refine gm_iload dX10_places_64 rfl ?_
  refine gm_if_eq (tgt := 74) dX10_places_66 (by decide) ?_ ?_
  · refine gm_aload_n dX10_places_74 rfl rfl ?_
    refine gm_iload_n dX10_places_75 rfl rfl ?_
    refine gm_callVi (As := [.int (y2)]) dX10_places_76 (t_X10_tries w y2) ce_8_0 rfl cy_X10_tries tb_1130 rfl rfl (rm_ok (by decide) (by decide)) (Nat.le_of_ble_eq_true rfl) (fun q8 => ?_)
    exact gm_weak (lsub_s (lsub_n (lsub_s (lsub_n (lsub_s lsub_0))))) (k_X10_places_79 rc36 hrc36 q8.2 y2 z0 q8.1)
  · refine gm_bipush (v := 6) dX10_places_69 (by decide) ?_
    refine gm_goto (tgt := 79) dX10_places_71 (by decide) ?_
    exact gm_weak (lsub_s (lsub_n (lsub_s (lsub_n (lsub_s lsub_0))))) (k_X10_places_79 rc36 hrc36 w y2 z0 6)
noncomputable def b_X10_places_36 (rc36 : Wd → Int32 → Int32 → Option (Int32 × Wd)) (w : Wd) (y2 : Int32) (y3 : Int32) : Option (Int32 × Wd) :=
  if (w 8 0 12) < 0 then
    letw (wup w 8 0 17 0) fun w4 =>
    some (y3, w4)
  else
    if y3 = (-1) then
      if (w 8 0 15) = 30 then
        j_X10_places_62 rc36 w y2 1
      else
        j_X10_places_62 rc36 w y2 0
    else
      if y3 = 0 then
        (f_X10_connects w).bind fun q7 =>
        some (0, q7.2)
      else
        (f_X10_leaves w y3).bind fun q5 =>
        if 0 ≤ ((q5.2) 8 0 12) then
          (f_X10_settles q5.2 y3).bind fun q6 =>
          rc36 q6.2 y2 q6.1
        else
          rc36 q5.2 y2 y3
set_option maxRecDepth 100000 in
set_option maxHeartbeats 4000000 in
theorem kb_X10_places_36 {l : Launch} {E : En} (rc36 : Wd → Int32 → Int32 → Option (Int32 × Wd)) (hrc36 : ∀ (w : Wd) (y2 : Int32) (y3 : Int32), Gm l E cX10_places 5 RX10 (some .int) (rmk (6)) eI (rc36 w y2 y3) w 36 [some (.ref (E.1 8 0)), none, some (.int (y2)), some (.int (y3)), none] []) (w : Wd) (y2 : Int32) (y3 : Int32) : Gm l E cX10_places 5 RX10 (some .int) (rmk (6)) eI (b_X10_places_36   rc36 w y2 y3) w 36 [some (.ref (E.1 8 0)), none, some (.int (y2)), some (.int (y3)), none] [] := by
  unfold b_X10_places_36
  refine gm_aload_n dX10_places_36 rfl rfl ?_
  refine gm_get dX10_places_37 ce_8_0 rfl inX10 12 (by decide) tb_956 rfl rfl ?_
  refine gm_if_lt (tgt := 159) dX10_places_40 (by decide) ?_ ?_
  · refine gm_aload_n dX10_places_159 rfl rfl ?_
    refine gm_iconst (v := 0) dX10_places_160 (by decide) ?_
    refine gm_put dX10_places_161 ce_8_0 rfl inX10 tyX10 tyX10_ok nmX10 17 (by decide) tb_961 rfl rfl (by decide +kernel) (fun _ => rfl) (fun _ => rfl) (fun w4 => ?_)
    refine gm_iload_n dX10_places_164 rfl rfl ?_
    exact gm_iret dX10_places_165
  · refine gm_iload_n dX10_places_43 rfl rfl ?_
    refine gm_iconst (v := (-1)) dX10_places_44 (by decide) ?_
    refine gm_icmp_ne (tgt := 124) dX10_places_45 (by decide) ?_ ?_
    · refine gm_iload_n dX10_places_124 rfl rfl ?_
      refine gm_if_ne (tgt := 134) dX10_places_125 (by decide) ?_ ?_
      · refine gm_aload_n dX10_places_134 rfl rfl ?_
        refine gm_iload_n dX10_places_135 rfl rfl ?_
        refine gm_callVv (As := [.int (y3)]) dX10_places_136 (t_X10_leaves w y3) ce_8_0 rfl cy_X10_leaves tb_1142 rfl rfl (rm_ok (by decide) (by decide)) (Nat.le_of_ble_eq_true rfl) (fun q5 => ?_)
        refine gm_aload_n dX10_places_139 rfl rfl ?_
        refine gm_get dX10_places_140 ce_8_0 rfl inX10 12 (by decide) tb_956 rfl rfl ?_
        refine gm_if_ge (tgt := 150) dX10_places_143 (by decide) ?_ ?_
        · refine gm_aload_n dX10_places_150 rfl rfl ?_
          refine gm_iload_n dX10_places_151 rfl rfl ?_
          refine gm_callVi (As := [.int (y3)]) dX10_places_152 (t_X10_settles q5.2 y3) ce_8_0 rfl cy_X10_settles tb_1146 rfl rfl (rm_ok (by decide) (by decide)) (Nat.le_of_ble_eq_true rfl) (fun q6 => ?_)
          refine gm_istore_n (lv' := [some (.ref (E.1 8 0)), none, some (.int (y2)), some (.int (q6.1)), none]) dX10_places_155 rfl (by decide) rfl rfl ?_
          refine gm_goto (tgt := 36) dX10_places_156 (by decide) ?_
          exact gm_weak (lsub_s (lsub_n (lsub_s (lsub_s (lsub_n lsub_0))))) (hrc36 q6.2 y2 q6.1)
        · refine gm_iload_n dX10_places_146 rfl rfl ?_
          refine gm_goto (tgt := 155) dX10_places_147 (by decide) ?_
          refine gm_istore_n (lv' := [some (.ref (E.1 8 0)), none, some (.int (y2)), some (.int (y3)), none]) dX10_places_155 rfl (by decide) rfl rfl ?_
          refine gm_goto (tgt := 36) dX10_places_156 (by decide) ?_
          exact gm_weak (lsub_s (lsub_n (lsub_s (lsub_s (lsub_n lsub_0))))) (hrc36 q5.2 y2 y3)
      · refine gm_aload_n dX10_places_128 rfl rfl ?_
        refine gm_callVv (As := []) dX10_places_129 (t_X10_connects w) ce_8_0 rfl cy_X10_connects tb_1150 rfl rfl (rm_ok (by decide) (by decide)) (Nat.le_of_ble_eq_true rfl) (fun q7 => ?_)
        refine gm_iconst (v := 0) dX10_places_132 (by decide) ?_
        exact gm_iret dX10_places_133
    · refine gm_aload_n dX10_places_48 rfl rfl ?_
      refine gm_get dX10_places_49 ce_8_0 rfl inX10 15 (by decide) tb_959 rfl rfl ?_
      refine gm_bipush (v := 30) dX10_places_52 (by decide) ?_
      refine gm_icmp_ne (tgt := 61) dX10_places_54 (by decide) ?_ ?_
      · refine gm_iconst (v := 0) dX10_places_61 (by decide) ?_
        exact gm_weak (lsub_s (lsub_n (lsub_s (lsub_n (lsub_n lsub_0))))) (k_X10_places_62 rc36 hrc36 w y2 0)
      · refine gm_iconst (v := 1) dX10_places_57 (by decide) ?_
        refine gm_goto (tgt := 62) dX10_places_58 (by decide) ?_
        exact gm_weak (lsub_s (lsub_n (lsub_s (lsub_n (lsub_n lsub_0))))) (k_X10_places_62 rc36 hrc36 w y2 1)
noncomputable def h_X10_places_36 : Nat → (Wd → Int32 → Int32 → Option (Int32 × Wd))
  | 0 => fun _ _ _ => none
  | fu + 1 => b_X10_places_36    (h_X10_places_36    fu)
set_option maxRecDepth 100000 in
set_option maxHeartbeats 4000000 in
theorem k_X10_places_36 {l : Launch} {E : En} : ∀ (fu : Nat) (w : Wd) (y2 : Int32) (y3 : Int32), Gm l E cX10_places 5 RX10 (some .int) (rmk (6)) eI (h_X10_places_36    fu w y2 y3) w 36 [some (.ref (E.1 8 0)), none, some (.int (y2)), some (.int (y3)), none] []
  | 0, _, _, _ => gm_none
  | fu + 1, w, y2, y3 => kb_X10_places_36     (h_X10_places_36    fu)  (fun w y2 y3 => k_X10_places_36      fu w y2 y3) w y2 y3
noncomputable def f_X10_places (w : Wd) (x1 : Int32) (x2 : Int32) : Option (Int32 × Wd) :=
  letw (wup w 8 0 12 (-1)) fun w1 =>
  letw (wup w1 8 0 15 0) fun w2 =>
  (f_X10_arrives w2 x1 x2 (-1)).bind fun q3 =>
  if q3.1 = 0 then
    (f_X10_isBusy q3.2 x2).bind fun q12 =>
    if q12.1 = 0 then
      h_X10_places_36 FU q12.2 x2 q3.1
    else
      h_X10_places_36 FU q12.2 x2 5
  else
    h_X10_places_36 FU q3.2 x2 q3.1
set_option maxRecDepth 100000 in
set_option maxHeartbeats 4000000 in
theorem t_X10_places {l : Launch} {E : En} (w : Wd) (x1 : Int32) (x2 : Int32) : ∀ q, f_X10_places   w x1 x2 = some q → Mt l E yX10_places cX10_places 5 (some .int) (rmk 6) [.ref (E.1 8 0), .int (x1), .int (x2)] w (eI q.1) q.2 := by
  refine Mt.of [some (.ref (E.1 8 0)), some (.int (x1)), some (.int (x2)), none, none] (plainFor_of_name pn_X10) rfl (Nat.le_of_ble_eq_true rfl) rfl ?_
  unfold f_X10_places
  refine gm_aload_n dX10_places_0 rfl rfl ?_
  refine gm_iconst (v := (-1)) dX10_places_1 (by decide) ?_
  refine gm_put dX10_places_2 ce_8_0 rfl inX10 tyX10 tyX10_ok nmX10 12 (by decide) tb_956 rfl rfl (by decide +kernel) (fun _ => rfl) (fun _ => rfl) (fun w1 => ?_)
  refine gm_aload_n dX10_places_5 rfl rfl ?_
  refine gm_iconst (v := 0) dX10_places_6 (by decide) ?_
  refine gm_put dX10_places_7 ce_8_0 rfl inX10 tyX10 tyX10_ok nmX10 15 (by decide) tb_959 rfl rfl (by decide +kernel) (fun _ => rfl) (fun _ => rfl) (fun w2 => ?_)
  refine gm_aload_n dX10_places_10 rfl rfl ?_
  refine gm_iload_n dX10_places_11 rfl rfl ?_
  refine gm_iload_n dX10_places_12 rfl rfl ?_
  refine gm_iconst (v := (-1)) dX10_places_13 (by decide) ?_
  refine gm_callVi (As := [.int (x1), .int (x2), .int ((-1))]) dX10_places_14 (t_X10_arrives w2 x1 x2 (-1)) ce_8_0 rfl cy_X10_arrives tb_1095 rfl rfl (rm_ok (by decide) (by decide)) (Nat.le_of_ble_eq_true rfl) (fun q3 => ?_)
  refine gm_istore_n (lv' := [some (.ref (E.1 8 0)), some (.int (x1)), some (.int (x2)), some (.int (q3.1)), none]) dX10_places_17 rfl (by decide) rfl rfl ?_
  refine gm_iload_n dX10_places_18 rfl rfl ?_
  refine gm_if_ne (tgt := 34) dX10_places_19 (by decide) ?_ ?_
  · refine gm_iload_n dX10_places_34 rfl rfl ?_
    refine gm_istore_n (lv' := [some (.ref (E.1 8 0)), some (.int (x1)), some (.int (x2)), some (.int (q3.1)), none]) dX10_places_35 rfl (by decide) rfl rfl ?_
    exact gm_weak (lsub_s (lsub_n (lsub_s (lsub_s (lsub_n lsub_0))))) (k_X10_places_36 FU q3.2 x2 q3.1)
  · refine gm_aload_n dX10_places_22 rfl rfl ?_
    refine gm_iload_n dX10_places_23 rfl rfl ?_
    refine gm_callVi (As := [.int (x2)]) dX10_places_24 (t_X10_isBusy q3.2 x2) ce_8_0 rfl cy_X10_isBusy tb_1126 rfl rfl (rm_ok (by decide) (by decide)) (Nat.le_of_ble_eq_true rfl) (fun q12 => ?_)
    refine gm_if_eq (tgt := 34) dX10_places_27 (by decide) ?_ ?_
    · refine gm_iload_n dX10_places_34 rfl rfl ?_
      refine gm_istore_n (lv' := [some (.ref (E.1 8 0)), some (.int (x1)), some (.int (x2)), some (.int (q3.1)), none]) dX10_places_35 rfl (by decide) rfl rfl ?_
      exact gm_weak (lsub_s (lsub_n (lsub_s (lsub_s (lsub_n lsub_0))))) (k_X10_places_36 FU q12.2 x2 q3.1)
    · refine gm_iconst (v := 5) dX10_places_30 (by decide) ?_
      refine gm_goto (tgt := 35) dX10_places_31 (by decide) ?_
      refine gm_istore_n (lv' := [some (.ref (E.1 8 0)), some (.int (x1)), some (.int (x2)), some (.int (5)), none]) dX10_places_35 rfl (by decide) rfl rfl ?_
      exact gm_weak (lsub_s (lsub_n (lsub_s (lsub_s (lsub_n lsub_0))))) (k_X10_places_36 FU q12.2 x2 5)

noncomputable def b_X10_call_183 (rc183 : Wd → Int32 → Int32 → Int32 → Option (Int32 × Wd)) (w : Wd) (y4 : Int32) (y5 : Int32) (y6 : Int32) : Option (Int32 × Wd) :=
  if (w 8 0 17) ≤ y6 then
    if ib 5 640 = true then
    if ib 5 640 = true then
    letw (wup w 8 1 (Int32.toNatClampNeg 5) ((w 8 1 (Int32.toNatClampNeg 5)) + 1)) fun w12 =>
    some (y4, w12)
    else none
    else none
  else
    if ib y6 8 = true then
    if ib ((y5 + 5) + y6) 640 = true then
    letw (wup w 8 1 (Int32.toNatClampNeg ((y5 + 5) + y6)) (w 8 13 (Int32.toNatClampNeg y6))) fun w13 =>
    rc183 w13 y4 y5 (y6 + 1)
    else none
    else none
set_option maxRecDepth 100000 in
set_option maxHeartbeats 4000000 in
theorem kb_X10_call_183 {l : Launch} {E : En} (rc183 : Wd → Int32 → Int32 → Int32 → Option (Int32 × Wd)) (hrc183 : ∀ (w : Wd) (y4 : Int32) (y5 : Int32) (y6 : Int32), Gm l E cX10_call 7 RX10 (some .int) (rmk (7)) eI (rc183 w y4 y5 y6) w 183 [some (.ref (E.1 8 0)), none, none, none, some (.int (y4)), some (.int (y5)), some (.int (y6))] []) (w : Wd) (y4 : Int32) (y5 : Int32) (y6 : Int32) : Gm l E cX10_call 7 RX10 (some .int) (rmk (7)) eI (b_X10_call_183   rc183 w y4 y5 y6) w 183 [some (.ref (E.1 8 0)), none, none, none, some (.int (y4)), some (.int (y5)), some (.int (y6))] [] := by
  unfold b_X10_call_183
  refine gm_iload dX10_call_183 rfl ?_
  refine gm_aload_n dX10_call_185 rfl rfl ?_
  refine gm_get dX10_call_186 ce_8_0 rfl inX10 17 (by decide) tb_961 rfl rfl ?_
  refine gm_icmp_ge (tgt := 217) dX10_call_189 (by decide) ?_ ?_
  · refine gm_aload_n dX10_call_217 rfl rfl ?_
    refine gm_get dX10_call_218 ce_8_0 rfl inX10 0 (by decide) tb_944 rfl rfl ?_
    refine gm_iconst (v := 5) dX10_call_221 (by decide) ?_
    refine gm_dup2 dX10_call_222 rfl rfl ?_
    refine gm_iald dX10_call_223 ce_8_1 ?_
    refine gm_iconst (v := 1) dX10_call_224 (by decide) ?_
    refine gm_iadd dX10_call_225 ?_
    refine gm_iast dX10_call_226 ce_8_1 (fun w12 => ?_)
    refine gm_iload dX10_call_227 rfl ?_
    exact gm_iret dX10_call_229
  · refine gm_aload_n dX10_call_192 rfl rfl ?_
    refine gm_get dX10_call_193 ce_8_0 rfl inX10 0 (by decide) tb_944 rfl rfl ?_
    refine gm_iload dX10_call_196 rfl ?_
    refine gm_iconst (v := 5) dX10_call_198 (by decide) ?_
    refine gm_iadd dX10_call_199 ?_
    refine gm_iload dX10_call_200 rfl ?_
    refine gm_iadd dX10_call_202 ?_
    refine gm_aload_n dX10_call_203 rfl rfl ?_
    refine gm_get dX10_call_204 ce_8_0 rfl inX10 16 (by decide) tb_960 rfl rfl ?_
    refine gm_iload dX10_call_207 rfl ?_
    refine gm_iald dX10_call_209 ce_8_13 ?_
    refine gm_iast dX10_call_210 ce_8_1 (fun w13 => ?_)
    refine gm_iinc (v := 1) (lv' := [some (.ref (E.1 8 0)), none, none, none, some (.int (y4)), some (.int (y5)), some (.int (y6 + 1))]) dX10_call_211 rfl (by decide) (by decide) rfl rfl ?_
    refine gm_goto (tgt := 183) dX10_call_214 (by decide) ?_
    exact gm_weak (lsub_s (lsub_n (lsub_n (lsub_n (lsub_s (lsub_s (lsub_s lsub_0))))))) (hrc183 w13 y4 y5 (y6 + 1))
noncomputable def h_X10_call_183 : Nat → (Wd → Int32 → Int32 → Int32 → Option (Int32 × Wd))
  | 0 => fun _ _ _ _ => none
  | fu + 1 => b_X10_call_183    (h_X10_call_183    fu)
set_option maxRecDepth 100000 in
set_option maxHeartbeats 4000000 in
theorem k_X10_call_183 {l : Launch} {E : En} : ∀ (fu : Nat) (w : Wd) (y4 : Int32) (y5 : Int32) (y6 : Int32), Gm l E cX10_call 7 RX10 (some .int) (rmk (7)) eI (h_X10_call_183    fu w y4 y5 y6) w 183 [some (.ref (E.1 8 0)), none, none, none, some (.int (y4)), some (.int (y5)), some (.int (y6))] []
  | 0, _, _, _, _ => gm_none
  | fu + 1, w, y4, y5, y6 => kb_X10_call_183     (h_X10_call_183    fu)  (fun w y4 y5 y6 => k_X10_call_183      fu w y4 y5 y6) w y4 y5 y6
noncomputable def b_X10_call_80 (rc80 : Wd → Int32 → Int32 → Option (Int32 × Wd)) (w : Wd) (y2 : Int32) (y4 : Int32) : Option (Int32 × Wd) :=
  if ib (420 + (14 * y4)) 640 = true then
  if (w 8 1 (Int32.toNatClampNeg (420 + (14 * y4)))) = 1 then
    rc80 w y2 (y4 + 1)
  else
    leti (420 + (14 * y4)) fun u6 =>
    if ib u6 640 = true then
    letw (wup w 8 1 (Int32.toNatClampNeg u6) 1) fun w7 =>
    if ib (u6 + 1) 640 = true then
    letw (wup w7 8 1 (Int32.toNatClampNeg (u6 + 1)) y2) fun w8 =>
    if ib 4 640 = true then
    if ib (u6 + 2) 640 = true then
    letw (wup w8 8 1 (Int32.toNatClampNeg (u6 + 2)) (w8 8 1 (Int32.toNatClampNeg 4))) fun w9 =>
    if ib 4 640 = true then
    if ib (u6 + 3) 640 = true then
    letw (wup w9 8 1 (Int32.toNatClampNeg (u6 + 3)) (p_X10_bandOf w9 (w9 8 1 (Int32.toNatClampNeg 4)))) fun w10 =>
    if ib (u6 + 4) 640 = true then
    letw (wup w10 8 1 (Int32.toNatClampNeg (u6 + 4)) (w10 8 0 17)) fun w11 =>
    h_X10_call_183 FU w11 y4 u6 0
    else none
    else none
    else none
    else none
    else none
    else none
    else none
  else none
set_option maxRecDepth 100000 in
set_option maxHeartbeats 4000000 in
theorem kb_X10_call_80 {l : Launch} {E : En} (rc80 : Wd → Int32 → Int32 → Option (Int32 × Wd)) (hrc80 : ∀ (w : Wd) (y2 : Int32) (y4 : Int32), Gm l E cX10_call 7 RX10 (some .int) (rmk (7)) eI (rc80 w y2 y4) w 80 [some (.ref (E.1 8 0)), none, some (.int (y2)), none, some (.int (y4)), none, none] []) (w : Wd) (y2 : Int32) (y4 : Int32) : Gm l E cX10_call 7 RX10 (some .int) (rmk (7)) eI (b_X10_call_80   rc80 w y2 y4) w 80 [some (.ref (E.1 8 0)), none, some (.int (y2)), none, some (.int (y4)), none, none] [] := by
  unfold b_X10_call_80
  refine gm_aload_n dX10_call_80 rfl rfl ?_
  refine gm_get dX10_call_81 ce_8_0 rfl inX10 0 (by decide) tb_944 rfl rfl ?_
  refine gm_sipush (v := 420) dX10_call_84 (by decide) ?_
  refine gm_bipush (v := 14) dX10_call_87 (by decide) ?_
  refine gm_iload dX10_call_89 rfl ?_
  refine gm_imul dX10_call_91 ?_
  refine gm_iadd dX10_call_92 ?_
  refine gm_iald dX10_call_93 ce_8_1 ?_
  refine gm_iconst (v := 1) dX10_call_94 (by decide) ?_
  refine gm_icmp_ne (tgt := 104) dX10_call_95 (by decide) ?_ ?_
  · refine gm_sipush (v := 420) dX10_call_104 (by decide) ?_
    refine gm_bipush (v := 14) dX10_call_107 (by decide) ?_
    refine gm_iload dX10_call_109 rfl ?_
    refine gm_imul dX10_call_111 ?_
    refine gm_iadd dX10_call_112 ?_
    refine gm_leti_st (fun u6 => ?_)
    refine gm_istore (lv' := [some (.ref (E.1 8 0)), none, some (.int (y2)), none, some (.int (y4)), some (.int (u6)), none]) dX10_call_113 (by decide) rfl rfl ?_
    refine gm_aload_n dX10_call_115 rfl rfl ?_
    refine gm_get dX10_call_116 ce_8_0 rfl inX10 0 (by decide) tb_944 rfl rfl ?_
    refine gm_iload dX10_call_119 rfl ?_
    refine gm_iconst (v := 1) dX10_call_121 (by decide) ?_
    refine gm_iast dX10_call_122 ce_8_1 (fun w7 => ?_)
    refine gm_aload_n dX10_call_123 rfl rfl ?_
    refine gm_get dX10_call_124 ce_8_0 rfl inX10 0 (by decide) tb_944 rfl rfl ?_
    refine gm_iload dX10_call_127 rfl ?_
    refine gm_iconst (v := 1) dX10_call_129 (by decide) ?_
    refine gm_iadd dX10_call_130 ?_
    refine gm_iload_n dX10_call_131 rfl rfl ?_
    refine gm_iast dX10_call_132 ce_8_1 (fun w8 => ?_)
    refine gm_aload_n dX10_call_133 rfl rfl ?_
    refine gm_get dX10_call_134 ce_8_0 rfl inX10 0 (by decide) tb_944 rfl rfl ?_
    refine gm_iload dX10_call_137 rfl ?_
    refine gm_iconst (v := 2) dX10_call_139 (by decide) ?_
    refine gm_iadd dX10_call_140 ?_
    refine gm_aload_n dX10_call_141 rfl rfl ?_
    refine gm_get dX10_call_142 ce_8_0 rfl inX10 0 (by decide) tb_944 rfl rfl ?_
    refine gm_iconst (v := 4) dX10_call_145 (by decide) ?_
    refine gm_iald dX10_call_146 ce_8_1 ?_
    refine gm_iast dX10_call_147 ce_8_1 (fun w9 => ?_)
    refine gm_aload_n dX10_call_148 rfl rfl ?_
    refine gm_get dX10_call_149 ce_8_0 rfl inX10 0 (by decide) tb_944 rfl rfl ?_
    refine gm_iload dX10_call_152 rfl ?_
    refine gm_iconst (v := 3) dX10_call_154 (by decide) ?_
    refine gm_iadd dX10_call_155 ?_
    refine gm_aload_n dX10_call_156 rfl rfl ?_
    refine gm_aload_n dX10_call_157 rfl rfl ?_
    refine gm_get dX10_call_158 ce_8_0 rfl inX10 0 (by decide) tb_944 rfl rfl ?_
    refine gm_iconst (v := 4) dX10_call_161 (by decide) ?_
    refine gm_iald dX10_call_162 ce_8_1 ?_
    refine gm_callVk (As := [.int (w9 8 1 (Int32.toNatClampNeg 4))]) dX10_call_163 (tk_X10_bandOf w9 (w9 8 1 (Int32.toNatClampNeg 4))) ce_8_0 rfl cy_X10_bandOf tb_1122 rfl rfl (rm_ok (by decide) (by decide)) (Nat.le_of_ble_eq_true rfl) ?_
    refine gm_iast dX10_call_166 ce_8_1 (fun w10 => ?_)
    refine gm_aload_n dX10_call_167 rfl rfl ?_
    refine gm_get dX10_call_168 ce_8_0 rfl inX10 0 (by decide) tb_944 rfl rfl ?_
    refine gm_iload dX10_call_171 rfl ?_
    refine gm_iconst (v := 4) dX10_call_173 (by decide) ?_
    refine gm_iadd dX10_call_174 ?_
    refine gm_aload_n dX10_call_175 rfl rfl ?_
    refine gm_get dX10_call_176 ce_8_0 rfl inX10 17 (by decide) tb_961 rfl rfl ?_
    refine gm_iast dX10_call_179 ce_8_1 (fun w11 => ?_)
    refine gm_iconst (v := 0) dX10_call_180 (by decide) ?_
    refine gm_istore (lv' := [some (.ref (E.1 8 0)), none, some (.int (y2)), none, some (.int (y4)), some (.int (u6)), some (.int (0))]) dX10_call_181 (by decide) rfl rfl ?_
    exact gm_weak (lsub_s (lsub_n (lsub_n (lsub_n (lsub_s (lsub_s (lsub_s lsub_0))))))) (k_X10_call_183 FU w11 y4 u6 0)
  · refine gm_iinc (v := 1) (lv' := [some (.ref (E.1 8 0)), none, some (.int (y2)), none, some (.int (y4 + 1)), none, none]) dX10_call_98 rfl (by decide) (by decide) rfl rfl ?_
    refine gm_goto (tgt := 80) dX10_call_101 (by decide) ?_
    exact gm_weak (lsub_s (lsub_n (lsub_s (lsub_n (lsub_s (lsub_n (lsub_n lsub_0))))))) (hrc80 w y2 (y4 + 1))
noncomputable def h_X10_call_80 : Nat → (Wd → Int32 → Int32 → Option (Int32 × Wd))
  | 0 => fun _ _ _ => none
  | fu + 1 => b_X10_call_80    (h_X10_call_80    fu)
set_option maxRecDepth 100000 in
set_option maxHeartbeats 4000000 in
theorem k_X10_call_80 {l : Launch} {E : En} : ∀ (fu : Nat) (w : Wd) (y2 : Int32) (y4 : Int32), Gm l E cX10_call 7 RX10 (some .int) (rmk (7)) eI (h_X10_call_80    fu w y2 y4) w 80 [some (.ref (E.1 8 0)), none, some (.int (y2)), none, some (.int (y4)), none, none] []
  | 0, _, _, _ => gm_none
  | fu + 1, w, y2, y4 => kb_X10_call_80     (h_X10_call_80    fu)  (fun w y2 y4 => k_X10_call_80      fu w y2 y4) w y2 y4
noncomputable def f_X10_call (w : Wd) (x1 : Int32) (x2 : Int32) : Option (Int32 × Wd) :=
  (f_X10_isSwitch w x1).bind fun q1 =>
  if q1.1 = 0 then
    some ((-1), q1.2)
  else
    (f_X10_isNumber q1.2 x2).bind fun q2 =>
    if q2.1 = 0 then
      some ((-1), q2.2)
    else
      if ib 5 640 = true then
      if (q2.2 8 1 (Int32.toNatClampNeg 5)) = 10 then
        some ((-3), q2.2)
      else
        (f_X10_copies 1 2 q2.2).bind fun q3 =>
        (f_X10_places q3.2 x1 x2).bind fun q4 =>
        if q4.1 = 0 then
          (f_X10_keeps 2 q4.2).bind fun q5 =>
          h_X10_call_80 FU q5.2 x2 0
        else
          (f_X10_copies 2 1 q4.2).bind fun q14 =>
          some ((-10) - q4.1, q14.2)
      else none
set_option maxRecDepth 100000 in
set_option maxHeartbeats 4000000 in
theorem t_X10_call {l : Launch} {E : En} (w : Wd) (x1 : Int32) (x2 : Int32) : ∀ q, f_X10_call   w x1 x2 = some q → Mt l E yX10_call cX10_call 7 (some .int) (rmk 7) [.ref (E.1 8 0), .int (x1), .int (x2)] w (eI q.1) q.2 := by
  refine Mt.of [some (.ref (E.1 8 0)), some (.int (x1)), some (.int (x2)), none, none, none, none] (plainFor_of_name pn_X10) rfl (Nat.le_of_ble_eq_true rfl) rfl ?_
  unfold f_X10_call
  refine gm_aload_n dX10_call_0 rfl rfl ?_
  refine gm_iload_n dX10_call_1 rfl rfl ?_
  refine gm_callVi (As := [.int (x1)]) dX10_call_2 (t_X10_isSwitch w x1) ce_8_0 rfl cy_X10_isSwitch tb_1029 rfl rfl (rm_ok (by decide) (by decide)) (Nat.le_of_ble_eq_true rfl) (fun q1 => ?_)
  refine gm_if_eq (tgt := 15) dX10_call_5 (by decide) ?_ ?_
  · refine gm_iconst (v := (-1)) dX10_call_15 (by decide) ?_
    exact gm_iret dX10_call_16
  · refine gm_iload_n dX10_call_8 rfl rfl ?_
    refine gm_callSi (As := [.int (x2)]) dX10_call_9 (t_X10_isNumber q1.2 x2) cy_X10_isNumber tb_1069 rfl rfl (rm_ok (by decide) (by decide)) (Nat.le_of_ble_eq_true rfl) (fun q2 => ?_)
    refine gm_if_ne (tgt := 17) dX10_call_12 (by decide) ?_ ?_
    · refine gm_aload_n dX10_call_17 rfl rfl ?_
      refine gm_get dX10_call_18 ce_8_0 rfl inX10 0 (by decide) tb_944 rfl rfl ?_
      refine gm_iconst (v := 5) dX10_call_21 (by decide) ?_
      refine gm_iald dX10_call_22 ce_8_1 ?_
      refine gm_bipush (v := 10) dX10_call_23 (by decide) ?_
      refine gm_icmp_ne (tgt := 31) dX10_call_25 (by decide) ?_ ?_
      · refine gm_aload_n dX10_call_31 rfl rfl ?_
        refine gm_get dX10_call_32 ce_8_0 rfl inX10 0 (by decide) tb_944 rfl rfl ?_
        refine gm_aload_n dX10_call_35 rfl rfl ?_
        refine gm_get dX10_call_36 ce_8_0 rfl inX10 1 (by decide) tb_945 rfl rfl ?_
        refine gm_callSv (As := [.ref (E.1 8 1), .ref (E.1 8 2)]) dX10_call_39 (t_X10_copies 1 2 ce_8_1 ce_8_2 q2.2) cy_X10_copies tb_1088 rfl rfl (rm_ok (by decide) (by decide)) (Nat.le_of_ble_eq_true rfl) (fun q3 => ?_)
        refine gm_aload_n dX10_call_42 rfl rfl ?_
        refine gm_iload_n dX10_call_43 rfl rfl ?_
        refine gm_iload_n dX10_call_44 rfl rfl ?_
        refine gm_callVi (As := [.int (x1), .int (x2)]) dX10_call_45 (t_X10_places q3.2 x1 x2) ce_8_0 rfl cy_X10_places tb_1091 rfl rfl (rm_ok (by decide) (by decide)) (Nat.le_of_ble_eq_true rfl) (fun q4 => ?_)
        refine gm_istore_n (lv' := [some (.ref (E.1 8 0)), some (.int (x1)), some (.int (x2)), some (.int (q4.1)), none, none, none]) dX10_call_48 rfl (by decide) rfl rfl ?_
        refine gm_iload_n dX10_call_49 rfl rfl ?_
        refine gm_if_eq (tgt := 69) dX10_call_50 (by decide) ?_ ?_
        · refine gm_aload_n dX10_call_69 rfl rfl ?_
          refine gm_aload_n dX10_call_70 rfl rfl ?_
          refine gm_get dX10_call_71 ce_8_0 rfl inX10 1 (by decide) tb_945 rfl rfl ?_
          refine gm_callVv (As := [.ref (E.1 8 2)]) dX10_call_74 (t_X10_keeps 2 ce_8_2 q4.2) ce_8_0 rfl cy_X10_keeps tb_1021 rfl rfl (rm_ok (by decide) (by decide)) (Nat.le_of_ble_eq_true rfl) (fun q5 => ?_)
          refine gm_iconst (v := 0) dX10_call_77 (by decide) ?_
          refine gm_istore (lv' := [some (.ref (E.1 8 0)), some (.int (x1)), some (.int (x2)), some (.int (q4.1)), some (.int (0)), none, none]) dX10_call_78 (by decide) rfl rfl ?_
          exact gm_weak (lsub_s (lsub_n (lsub_s (lsub_n (lsub_s (lsub_n (lsub_n lsub_0))))))) (k_X10_call_80 FU q5.2 x2 0)
        · refine gm_aload_n dX10_call_53 rfl rfl ?_
          refine gm_get dX10_call_54 ce_8_0 rfl inX10 1 (by decide) tb_945 rfl rfl ?_
          refine gm_aload_n dX10_call_57 rfl rfl ?_
          refine gm_get dX10_call_58 ce_8_0 rfl inX10 0 (by decide) tb_944 rfl rfl ?_
          refine gm_callSv (As := [.ref (E.1 8 2), .ref (E.1 8 1)]) dX10_call_61 (t_X10_copies 2 1 ce_8_2 ce_8_1 q4.2) cy_X10_copies tb_1088 rfl rfl (rm_ok (by decide) (by decide)) (Nat.le_of_ble_eq_true rfl) (fun q14 => ?_)
          refine gm_bipush (v := (-10)) dX10_call_64 (by decide) ?_
          refine gm_iload_n dX10_call_66 rfl rfl ?_
          refine gm_isub dX10_call_67 ?_
          exact gm_iret dX10_call_68
      · refine gm_bipush (v := (-3)) dX10_call_28 (by decide) ?_
        exact gm_iret dX10_call_30
    · refine gm_iconst (v := (-1)) dX10_call_15 (by decide) ?_
      exact gm_iret dX10_call_16

noncomputable def f_X10_isCall (w : Wd) (x1 : Int32) : Option (Int32 × Wd) :=
  if (p_X10_in w x1 0 9) = 0 then
    some (0, w)
  else
    if ib (420 + (14 * x1)) 640 = true then
    if (w 8 1 (Int32.toNatClampNeg (420 + (14 * x1)))) = 1 then
      some (1, w)
    else
      some (0, w)
    else none
set_option maxRecDepth 100000 in
set_option maxHeartbeats 4000000 in
theorem t_X10_isCall {l : Launch} {E : En} (w : Wd) (x1 : Int32) : ∀ q, f_X10_isCall   w x1 = some q → Mt l E yX10_isCall cX10_isCall 2 (some .boolean) (rmk 2) [.ref (E.1 8 0), .int (x1)] w (eI q.1) q.2 := by
  refine Mt.of [some (.ref (E.1 8 0)), some (.int (x1))] (plainFor_of_name pn_X10) rfl (Nat.le_of_ble_eq_true rfl) rfl ?_
  unfold f_X10_isCall
  refine gm_iload_n dX10_isCall_0 rfl rfl ?_
  refine gm_iconst (v := 0) dX10_isCall_1 (by decide) ?_
  refine gm_bipush (v := 9) dX10_isCall_2 (by decide) ?_
  refine gm_callSk (As := [.int (x1), .int (0), .int (9)]) dX10_isCall_4 (tk_X10_in w x1 0 9) cy_X10_in tb_1033 rfl rfl (rm_ok (by decide) (by decide)) (Nat.le_of_ble_eq_true rfl) ?_
  refine gm_if_eq (tgt := 31) dX10_isCall_7 (by decide) ?_ ?_
  · refine gm_iconst (v := 0) dX10_isCall_31 (by decide) ?_
    exact gm_zret dX10_isCall_32 rfl
  · refine gm_aload_n dX10_isCall_10 rfl rfl ?_
    refine gm_get dX10_isCall_11 ce_8_0 rfl inX10 0 (by decide) tb_944 rfl rfl ?_
    refine gm_sipush (v := 420) dX10_isCall_14 (by decide) ?_
    refine gm_bipush (v := 14) dX10_isCall_17 (by decide) ?_
    refine gm_iload_n dX10_isCall_19 rfl rfl ?_
    refine gm_imul dX10_isCall_20 ?_
    refine gm_iadd dX10_isCall_21 ?_
    refine gm_iald dX10_isCall_22 ce_8_1 ?_
    refine gm_iconst (v := 1) dX10_isCall_23 (by decide) ?_
    refine gm_icmp_ne (tgt := 31) dX10_isCall_24 (by decide) ?_ ?_
    · refine gm_iconst (v := 0) dX10_isCall_31 (by decide) ?_
      exact gm_zret dX10_isCall_32 rfl
    · refine gm_iconst (v := 1) dX10_isCall_27 (by decide) ?_
      refine gm_goto (tgt := 32) dX10_isCall_28 (by decide) ?_
      exact gm_zret dX10_isCall_32 rfl

noncomputable def f_X10_called (w : Wd) (x1 : Int32) : Option (Int32 × Wd) :=
  (f_X10_isCall w x1).bind fun q1 =>
  if q1.1 = 0 then
    some ((-1), q1.2)
  else
    if ib ((420 + (14 * x1)) + 1) 640 = true then
    some (q1.2 8 1 (Int32.toNatClampNeg ((420 + (14 * x1)) + 1)), q1.2)
    else none
set_option maxRecDepth 100000 in
set_option maxHeartbeats 4000000 in
theorem t_X10_called {l : Launch} {E : En} (w : Wd) (x1 : Int32) : ∀ q, f_X10_called   w x1 = some q → Mt l E yX10_called cX10_called 2 (some .int) (rmk 3) [.ref (E.1 8 0), .int (x1)] w (eI q.1) q.2 := by
  refine Mt.of [some (.ref (E.1 8 0)), some (.int (x1))] (plainFor_of_name pn_X10) rfl (Nat.le_of_ble_eq_true rfl) rfl ?_
  unfold f_X10_called
  refine gm_aload_n dX10_called_0 rfl rfl ?_
  refine gm_iload_n dX10_called_1 rfl rfl ?_
  refine gm_callVi (As := [.int (x1)]) dX10_called_2 (t_X10_isCall w x1) ce_8_0 rfl cy_X10_isCall tb_1158 rfl rfl (rm_ok (by decide) (by decide)) (Nat.le_of_ble_eq_true rfl) (fun q1 => ?_)
  refine gm_if_eq (tgt := 26) dX10_called_5 (by decide) ?_ ?_
  · refine gm_iconst (v := (-1)) dX10_called_26 (by decide) ?_
    exact gm_iret dX10_called_27
  · refine gm_aload_n dX10_called_8 rfl rfl ?_
    refine gm_get dX10_called_9 ce_8_0 rfl inX10 0 (by decide) tb_944 rfl rfl ?_
    refine gm_sipush (v := 420) dX10_called_12 (by decide) ?_
    refine gm_bipush (v := 14) dX10_called_15 (by decide) ?_
    refine gm_iload_n dX10_called_17 rfl rfl ?_
    refine gm_imul dX10_called_18 ?_
    refine gm_iadd dX10_called_19 ?_
    refine gm_iconst (v := 1) dX10_called_20 (by decide) ?_
    refine gm_iadd dX10_called_21 ?_
    refine gm_iald dX10_called_22 ce_8_1 ?_
    refine gm_goto (tgt := 27) dX10_called_23 (by decide) ?_
    exact gm_iret dX10_called_27

noncomputable def f_X10_calls (w : Wd) : Option (Int32 × Wd) :=
  if ib 5 640 = true then
  some (w 8 1 (Int32.toNatClampNeg 5), w)
  else none
set_option maxRecDepth 100000 in
set_option maxHeartbeats 4000000 in
theorem t_X10_calls {l : Launch} {E : En} (w : Wd) : ∀ q, f_X10_calls   w  = some q → Mt l E yX10_calls cX10_calls 1 (some .int) (rmk 1) [.ref (E.1 8 0)] w (eI q.1) q.2 := by
  refine Mt.of [some (.ref (E.1 8 0))] (plainFor_of_name pn_X10) rfl (Nat.le_of_ble_eq_true rfl) rfl ?_
  unfold f_X10_calls
  refine gm_aload_n dX10_calls_0 rfl rfl ?_
  refine gm_get dX10_calls_1 ce_8_0 rfl inX10 0 (by decide) tb_944 rfl rfl ?_
  refine gm_iconst (v := 5) dX10_calls_4 (by decide) ?_
  refine gm_iald dX10_calls_5 ce_8_1 ?_
  exact gm_iret dX10_calls_6

noncomputable def f_X10_costOf (w : Wd) (x1 : Int32) (x2 : Int32) : Option (Int32 × Wd) :=
  (f_X10_serves w x1).bind fun q1 =>
  if q1.1 = 0 then
    (f_X10_of q1.2 x1 (3 + x2)).bind fun q2 =>
    some (q2.1, q2.2)
  else
    some (0, q1.2)
set_option maxRecDepth 100000 in
set_option maxHeartbeats 4000000 in
theorem t_X10_costOf {l : Launch} {E : En} (w : Wd) (x1 : Int32) (x2 : Int32) : ∀ q, f_X10_costOf   w x1 x2 = some q → Mt l E yX10_costOf cX10_costOf 3 (some .int) (rmk 3) [.ref (E.1 8 0), .int (x1), .int (x2)] w (eI q.1) q.2 := by
  refine Mt.of [some (.ref (E.1 8 0)), some (.int (x1)), some (.int (x2))] (plainFor_of_name pn_X10) rfl (Nat.le_of_ble_eq_true rfl) rfl ?_
  unfold f_X10_costOf
  refine gm_aload_n dX10_costOf_0 rfl rfl ?_
  refine gm_iload_n dX10_costOf_1 rfl rfl ?_
  refine gm_callVi (As := [.int (x1)]) dX10_costOf_2 (t_X10_serves w x1) ce_8_0 rfl cy_X10_serves tb_1138 rfl rfl (rm_ok (by decide) (by decide)) (Nat.le_of_ble_eq_true rfl) (fun q1 => ?_)
  refine gm_if_eq (tgt := 12) dX10_costOf_5 (by decide) ?_ ?_
  · refine gm_aload_n dX10_costOf_12 rfl rfl ?_
    refine gm_iload_n dX10_costOf_13 rfl rfl ?_
    refine gm_iconst (v := 3) dX10_costOf_14 (by decide) ?_
    refine gm_iload_n dX10_costOf_15 rfl rfl ?_
    refine gm_iadd dX10_costOf_16 ?_
    refine gm_callVi (As := [.int (x1), .int (3 + x2)]) dX10_costOf_17 (t_X10_of q1.2 x1 (3 + x2)) ce_8_0 rfl cy_X10_of tb_1114 rfl rfl (rm_ok (by decide) (by decide)) (Nat.le_of_ble_eq_true rfl) (fun q2 => ?_)
    exact gm_iret dX10_costOf_20
  · refine gm_iconst (v := 0) dX10_costOf_8 (by decide) ?_
    refine gm_goto (tgt := 20) dX10_costOf_9 (by decide) ?_
    exact gm_iret dX10_costOf_20

noncomputable def b_X10_costsTo_5 (rc5 : Wd → Int32 → Int32 → Int32 → Int32 → Option (Int32 × Wd)) (w : Wd) (y1 : Int32) (y2 : Int32) (y3 : Int32) (y4 : Int32) : Option (Int32 × Wd) :=
  if y1 < y4 then
    some (y3, w)
  else
    if ib y4 8 = true then
    if ib ((40 * y4) + (w 8 9 (Int32.toNatClampNeg y4))) 320 = true then
    (f_X10_costOf w (w 8 7 (Int32.toNatClampNeg ((40 * y4) + (w 8 9 (Int32.toNatClampNeg y4))))) y2).bind fun q1 =>
    leti (y3 + q1.1) fun u2 =>
    rc5 q1.2 y1 y2 u2 (y4 + 1)
    else none
    else none
set_option maxRecDepth 100000 in
set_option maxHeartbeats 4000000 in
theorem kb_X10_costsTo_5 {l : Launch} {E : En} (rc5 : Wd → Int32 → Int32 → Int32 → Int32 → Option (Int32 × Wd)) (hrc5 : ∀ (w : Wd) (y1 : Int32) (y2 : Int32) (y3 : Int32) (y4 : Int32), Gm l E cX10_costsTo 5 RX10 (some .int) (rmk (4)) eI (rc5 w y1 y2 y3 y4) w 5 [some (.ref (E.1 8 0)), some (.int (y1)), some (.int (y2)), some (.int (y3)), some (.int (y4))] []) (w : Wd) (y1 : Int32) (y2 : Int32) (y3 : Int32) (y4 : Int32) : Gm l E cX10_costsTo 5 RX10 (some .int) (rmk (4)) eI (b_X10_costsTo_5   rc5 w y1 y2 y3 y4) w 5 [some (.ref (E.1 8 0)), some (.int (y1)), some (.int (y2)), some (.int (y3)), some (.int (y4))] [] := by
  unfold b_X10_costsTo_5
  refine gm_iload dX10_costsTo_5 rfl ?_
  refine gm_iload_n dX10_costsTo_7 rfl rfl ?_
  refine gm_icmp_gt (tgt := 43) dX10_costsTo_8 (by decide) ?_ ?_
  · refine gm_iload_n dX10_costsTo_43 rfl rfl ?_
    exact gm_iret dX10_costsTo_44
  · refine gm_iload_n dX10_costsTo_11 rfl rfl ?_
    refine gm_aload_n dX10_costsTo_12 rfl rfl ?_
    refine gm_aload_n dX10_costsTo_13 rfl rfl ?_
    refine gm_get dX10_costsTo_14 ce_8_0 rfl inX10 8 (by decide) tb_952 rfl rfl ?_
    refine gm_bipush (v := 40) dX10_costsTo_17 (by decide) ?_
    refine gm_iload dX10_costsTo_19 rfl ?_
    refine gm_imul dX10_costsTo_21 ?_
    refine gm_aload_n dX10_costsTo_22 rfl rfl ?_
    refine gm_get dX10_costsTo_23 ce_8_0 rfl inX10 10 (by decide) tb_954 rfl rfl ?_
    refine gm_iload dX10_costsTo_26 rfl ?_
    refine gm_iald dX10_costsTo_28 ce_8_9 ?_
    refine gm_iadd dX10_costsTo_29 ?_
    refine gm_iald dX10_costsTo_30 ce_8_7 ?_
    refine gm_iload_n dX10_costsTo_31 rfl rfl ?_
    refine gm_callVi (As := [.int (w 8 7 (Int32.toNatClampNeg ((40 * y4) + (w 8 9 (Int32.toNatClampNeg y4))))), .int (y2)]) dX10_costsTo_32 (t_X10_costOf w (w 8 7 (Int32.toNatClampNeg ((40 * y4) + (w 8 9 (Int32.toNatClampNeg y4))))) y2) ce_8_0 rfl cy_X10_costOf tb_1162 rfl rfl (rm_ok (by decide) (by decide)) (Nat.le_of_ble_eq_true rfl) (fun q1 => ?_)
    refine gm_iadd dX10_costsTo_35 ?_
    refine gm_leti_st (fun u2 => ?_)
    refine gm_istore_n (lv' := [some (.ref (E.1 8 0)), some (.int (y1)), some (.int (y2)), some (.int (u2)), some (.int (y4))]) dX10_costsTo_36 rfl (by decide) rfl rfl ?_
    refine gm_iinc (v := 1) (lv' := [some (.ref (E.1 8 0)), some (.int (y1)), some (.int (y2)), some (.int (u2)), some (.int (y4 + 1))]) dX10_costsTo_37 rfl (by decide) (by decide) rfl rfl ?_
    refine gm_goto (tgt := 5) dX10_costsTo_40 (by decide) ?_
    exact gm_weak (lsub_s (lsub_s (lsub_s (lsub_s (lsub_s lsub_0))))) (hrc5 q1.2 y1 y2 u2 (y4 + 1))
noncomputable def h_X10_costsTo_5 : Nat → (Wd → Int32 → Int32 → Int32 → Int32 → Option (Int32 × Wd))
  | 0 => fun _ _ _ _ _ => none
  | fu + 1 => b_X10_costsTo_5    (h_X10_costsTo_5    fu)
set_option maxRecDepth 100000 in
set_option maxHeartbeats 4000000 in
theorem k_X10_costsTo_5 {l : Launch} {E : En} : ∀ (fu : Nat) (w : Wd) (y1 : Int32) (y2 : Int32) (y3 : Int32) (y4 : Int32), Gm l E cX10_costsTo 5 RX10 (some .int) (rmk (4)) eI (h_X10_costsTo_5    fu w y1 y2 y3 y4) w 5 [some (.ref (E.1 8 0)), some (.int (y1)), some (.int (y2)), some (.int (y3)), some (.int (y4))] []
  | 0, _, _, _, _, _ => gm_none
  | fu + 1, w, y1, y2, y3, y4 => kb_X10_costsTo_5     (h_X10_costsTo_5    fu)  (fun w y1 y2 y3 y4 => k_X10_costsTo_5      fu w y1 y2 y3 y4) w y1 y2 y3 y4
noncomputable def f_X10_costsTo (w : Wd) (x1 : Int32) (x2 : Int32) : Option (Int32 × Wd) :=
  h_X10_costsTo_5 FU w x1 x2 0 0
set_option maxRecDepth 100000 in
set_option maxHeartbeats 4000000 in
theorem t_X10_costsTo {l : Launch} {E : En} (w : Wd) (x1 : Int32) (x2 : Int32) : ∀ q, f_X10_costsTo   w x1 x2 = some q → Mt l E yX10_costsTo cX10_costsTo 5 (some .int) (rmk 4) [.ref (E.1 8 0), .int (x1), .int (x2)] w (eI q.1) q.2 := by
  refine Mt.of [some (.ref (E.1 8 0)), some (.int (x1)), some (.int (x2)), none, none] (plainFor_of_name pn_X10) rfl (Nat.le_of_ble_eq_true rfl) rfl ?_
  unfold f_X10_costsTo
  refine gm_iconst (v := 0) dX10_costsTo_0 (by decide) ?_
  refine gm_istore_n (lv' := [some (.ref (E.1 8 0)), some (.int (x1)), some (.int (x2)), some (.int (0)), none]) dX10_costsTo_1 rfl (by decide) rfl rfl ?_
  refine gm_iconst (v := 0) dX10_costsTo_2 (by decide) ?_
  refine gm_istore (lv' := [some (.ref (E.1 8 0)), some (.int (x1)), some (.int (x2)), some (.int (0)), some (.int (0))]) dX10_costsTo_3 (by decide) rfl rfl ?_
  exact gm_weak (lsub_s (lsub_s (lsub_s (lsub_s (lsub_s lsub_0))))) (k_X10_costsTo_5 FU w x1 x2 0 0)

noncomputable def j_X10_cheapest_195 (rc53 : Wd → Int32 → Int32 → Int32 → Option (Int32 × Wd)) (w : Wd) (y2 : Int32) (y3 : Int32) (y5 : Int32) (y7 : Int32) (z0 : Int32) : Option (Int32 × Wd) :=
  if ib y7 8 = true then
  if y5 = (-1) then
    if ib y7 8 = true then
    letw (wup w 8 9 (Int32.toNatClampNeg y7) ((w 8 9 (Int32.toNatClampNeg y7)) + 0)) fun w13 =>
    rc53 w13 y2 y3 z0
    else none
  else
    if ib y7 8 = true then
    letw (wup w 8 9 (Int32.toNatClampNeg y7) ((w 8 9 (Int32.toNatClampNeg y7)) + 1)) fun w12 =>
    rc53 w12 y2 y3 z0
    else none
  else none
set_option maxRecDepth 100000 in
set_option maxHeartbeats 4000000 in
theorem k_X10_cheapest_195 {l : Launch} {E : En} (rc53 : Wd → Int32 → Int32 → Int32 → Option (Int32 × Wd)) (hrc53 : ∀ (w : Wd) (y2 : Int32) (y3 : Int32) (y4 : Int32), Gm l E cX10_cheapest 9 RX10 (some .int) (rmk (5)) eI (rc53 w y2 y3 y4) w 53 [some (.ref (E.1 8 0)), none, some (.int (y2)), some (.int (y3)), some (.int (y4)), none, none, none, none] []) (w : Wd) (y2 : Int32) (y3 : Int32) (y5 : Int32) (y7 : Int32) (z0 : Int32) : Gm l E cX10_cheapest 9 RX10 (some .int) (rmk (5)) eI (j_X10_cheapest_195   rc53 w y2 y3 y5 y7 z0) w 195 [some (.ref (E.1 8 0)), none, some (.int (y2)), some (.int (y3)), none, some (.int (y5)), none, some (.int (y7)), none] [.int (z0)] := by
  unfold j_X10_cheapest_195
  refine gm_istore (lv' := [some (.ref (E.1 8 0)), none, some (.int (y2)), some (.int (y3)), some (.int (z0)), some (.int (y5)), none, some (.int (y7)), none]) dX10_cheapest_195 (by decide) rfl rfl ?_
  refine gm_aload_n dX10_cheapest_197 rfl rfl ?_
  refine gm_get dX10_cheapest_198 ce_8_0 rfl inX10 10 (by decide) tb_954 rfl rfl ?_
  refine gm_iload dX10_cheapest_201 rfl ?_
  refine gm_dup2 dX10_cheapest_203 rfl rfl ?_
  refine gm_iald dX10_cheapest_204 ce_8_9 ?_
  refine gm_iload dX10_cheapest_205 rfl ?_
  refine gm_iconst (v := (-1)) dX10_cheapest_207 (by decide) ?_
  refine gm_icmp_ne (tgt := 215) dX10_cheapest_208 (by decide) ?_ ?_
  · refine gm_iconst (v := 1) dX10_cheapest_215 (by decide) ?_
    refine gm_iadd dX10_cheapest_216 ?_
    refine gm_iast dX10_cheapest_217 ce_8_9 (fun w12 => ?_)
    refine gm_goto (tgt := 53) dX10_cheapest_218 (by decide) ?_
    exact gm_weak (lsub_s (lsub_n (lsub_s (lsub_s (lsub_s (lsub_n (lsub_n (lsub_n (lsub_n lsub_0))))))))) (hrc53 w12 y2 y3 z0)
  · refine gm_iconst (v := 0) dX10_cheapest_211 (by decide) ?_
    refine gm_goto (tgt := 216) dX10_cheapest_212 (by decide) ?_
    refine gm_iadd dX10_cheapest_216 ?_
    refine gm_iast dX10_cheapest_217 ce_8_9 (fun w13 => ?_)
    refine gm_goto (tgt := 53) dX10_cheapest_218 (by decide) ?_
    exact gm_weak (lsub_s (lsub_n (lsub_s (lsub_s (lsub_s (lsub_n (lsub_n (lsub_n (lsub_n lsub_0))))))))) (hrc53 w13 y2 y3 z0)
noncomputable def j_X10_cheapest_160 (rc53 : Wd → Int32 → Int32 → Int32 → Option (Int32 × Wd)) (w : Wd) (y2 : Int32) (y3 : Int32) (y4 : Int32) (y7 : Int32) (z0 : Int32) : Option (Int32 × Wd) :=
  (f_X10_costsTo w y7 y3).bind fun q11 =>
  if z0 = 0 then
    if y4 < 0 then
      j_X10_cheapest_195 rc53 q11.2 y2 y3 z0 y7 q11.1
    else
      if y4 ≤ q11.1 then
        j_X10_cheapest_195 rc53 q11.2 y2 y3 z0 y7 y4
      else
        j_X10_cheapest_195 rc53 q11.2 y2 y3 z0 y7 q11.1
  else
    j_X10_cheapest_195 rc53 q11.2 y2 y3 z0 y7 y4
set_option maxRecDepth 100000 in
set_option maxHeartbeats 4000000 in
theorem k_X10_cheapest_160 {l : Launch} {E : En} (rc53 : Wd → Int32 → Int32 → Int32 → Option (Int32 × Wd)) (hrc53 : ∀ (w : Wd) (y2 : Int32) (y3 : Int32) (y4 : Int32), Gm l E cX10_cheapest 9 RX10 (some .int) (rmk (5)) eI (rc53 w y2 y3 y4) w 53 [some (.ref (E.1 8 0)), none, some (.int (y2)), some (.int (y3)), some (.int (y4)), none, none, none, none] []) (w : Wd) (y2 : Int32) (y3 : Int32) (y4 : Int32) (y7 : Int32) (z0 : Int32) : Gm l E cX10_cheapest 9 RX10 (some .int) (rmk (5)) eI (j_X10_cheapest_160   rc53 w y2 y3 y4 y7 z0) w 160 [some (.ref (E.1 8 0)), none, some (.int (y2)), some (.int (y3)), some (.int (y4)), none, none, some (.int (y7)), none] [.int (z0)] := by
  unfold j_X10_cheapest_160
  refine gm_istore (lv' := [some (.ref (E.1 8 0)), none, some (.int (y2)), some (.int (y3)), some (.int (y4)), some (.int (z0)), none, some (.int (y7)), none]) dX10_cheapest_160 (by decide) rfl rfl ?_
  refine gm_aload_n dX10_cheapest_162 rfl rfl ?_
  refine gm_iload dX10_cheapest_163 rfl ?_
  refine gm_iload_n dX10_cheapest_165 rfl rfl ?_
  refine gm_callVi (As := [.int (y7), .int (y3)]) dX10_cheapest_166 (t_X10_costsTo w y7 y3) ce_8_0 rfl cy_X10_costsTo tb_1215 rfl rfl (rm_ok (by decide) (by decide)) (Nat.le_of_ble_eq_true rfl) (fun q11 => ?_)
  refine gm_istore (lv' := [some (.ref (E.1 8 0)), none, some (.int (y2)), some (.int (y3)), some (.int (y4)), some (.int (z0)), none, some (.int (y7)), some (.int (q11.1))]) dX10_cheapest_169 (by decide) rfl rfl ?_
  refine gm_iload dX10_cheapest_171 rfl ?_
  refine gm_if_ne (tgt := 193) dX10_cheapest_173 (by decide) ?_ ?_
  · refine gm_iload dX10_cheapest_193 rfl ?_
    exact gm_weak (lsub_s (lsub_n (lsub_s (lsub_s (lsub_n (lsub_s (lsub_n (lsub_s (lsub_n lsub_0))))))))) (k_X10_cheapest_195 rc53 hrc53 q11.2 y2 y3 z0 y7 y4)
  · refine gm_iload dX10_cheapest_176 rfl ?_
    refine gm_if_lt (tgt := 188) dX10_cheapest_178 (by decide) ?_ ?_
    · refine gm_iload dX10_cheapest_188 rfl ?_
      refine gm_goto (tgt := 195) dX10_cheapest_190 (by decide) ?_
      exact gm_weak (lsub_s (lsub_n (lsub_s (lsub_s (lsub_n (lsub_s (lsub_n (lsub_s (lsub_n lsub_0))))))))) (k_X10_cheapest_195 rc53 hrc53 q11.2 y2 y3 z0 y7 q11.1)
    · refine gm_iload dX10_cheapest_181 rfl ?_
      refine gm_iload dX10_cheapest_183 rfl ?_
      refine gm_icmp_ge (tgt := 193) dX10_cheapest_185 (by decide) ?_ ?_
      · refine gm_iload dX10_cheapest_193 rfl ?_
        exact gm_weak (lsub_s (lsub_n (lsub_s (lsub_s (lsub_n (lsub_s (lsub_n (lsub_s (lsub_n lsub_0))))))))) (k_X10_cheapest_195 rc53 hrc53 q11.2 y2 y3 z0 y7 y4)
      · refine gm_iload dX10_cheapest_188 rfl ?_
        refine gm_goto (tgt := 195) dX10_cheapest_190 (by decide) ?_
        exact gm_weak (lsub_s (lsub_n (lsub_s (lsub_s (lsub_n (lsub_s (lsub_n (lsub_s (lsub_n lsub_0))))))))) (k_X10_cheapest_195 rc53 hrc53 q11.2 y2 y3 z0 y7 q11.1)
noncomputable def b_X10_cheapest_53 (rc53 : Wd → Int32 → Int32 → Int32 → Option (Int32 × Wd)) (w : Wd) (y2 : Int32) (y3 : Int32) (y4 : Int32) : Option (Int32 × Wd) :=
  if (w 8 0 12) < 0 then
    some (y4, w)
  else
    if ib (w 8 0 12) 8 = true then
    if ib (w 8 0 12) 8 = true then
    if (w 8 9 (Int32.toNatClampNeg (w 8 0 12))) = (w 8 8 (Int32.toNatClampNeg (w 8 0 12))) then
      letw (wup w 8 0 12 ((w 8 0 12) - 1)) fun w14 =>
      if (w14 8 0 12) < 0 then
        rc53 w14 y2 y3 y4
      else
        if ib (w14 8 0 12) 8 = true then
        if ib (w14 8 0 12) 8 = true then
        letw (wup w14 8 9 (Int32.toNatClampNeg (w14 8 0 12)) ((w14 8 9 (Int32.toNatClampNeg (w14 8 0 12))) + 1)) fun w15 =>
        rc53 w15 y2 y3 y4
        else none
        else none
    else
      (f_X10_atHand w).bind fun q6 =>
      leti ((q6.2) 8 0 12) fun u7 =>
      (f_X10_serves q6.2 q6.1).bind fun q8 =>
      if q8.1 = 0 then
        (f_X10_of q8.2 q6.1 2).bind fun q9 =>
        if ib ((q9.2) 8 0 12) 8 = true then
        (f_X10_arrives q9.2 q9.1 y2 (q9.2 8 6 (Int32.toNatClampNeg ((q9.2) 8 0 12)))).bind fun q10 =>
        j_X10_cheapest_160 rc53 q10.2 y2 y3 y4 u7 q10.1
        else none
      else
        j_X10_cheapest_160 rc53 q8.2 y2 y3 y4 u7 0
    else none
    else none
set_option maxRecDepth 100000 in
set_option maxHeartbeats 4000000 in
theorem kb_X10_cheapest_53 {l : Launch} {E : En} (rc53 : Wd → Int32 → Int32 → Int32 → Option (Int32 × Wd)) (hrc53 : ∀ (w : Wd) (y2 : Int32) (y3 : Int32) (y4 : Int32), Gm l E cX10_cheapest 9 RX10 (some .int) (rmk (5)) eI (rc53 w y2 y3 y4) w 53 [some (.ref (E.1 8 0)), none, some (.int (y2)), some (.int (y3)), some (.int (y4)), none, none, none, none] []) (w : Wd) (y2 : Int32) (y3 : Int32) (y4 : Int32) : Gm l E cX10_cheapest 9 RX10 (some .int) (rmk (5)) eI (b_X10_cheapest_53   rc53 w y2 y3 y4) w 53 [some (.ref (E.1 8 0)), none, some (.int (y2)), some (.int (y3)), some (.int (y4)), none, none, none, none] [] := by
  unfold b_X10_cheapest_53
  refine gm_aload_n dX10_cheapest_53 rfl rfl ?_
  refine gm_get dX10_cheapest_54 ce_8_0 rfl inX10 12 (by decide) tb_956 rfl rfl ?_
  refine gm_if_lt (tgt := 221) dX10_cheapest_57 (by decide) ?_ ?_
  · refine gm_iload dX10_cheapest_221 rfl ?_
    exact gm_iret dX10_cheapest_223
  · refine gm_aload_n dX10_cheapest_60 rfl rfl ?_
    refine gm_get dX10_cheapest_61 ce_8_0 rfl inX10 10 (by decide) tb_954 rfl rfl ?_
    refine gm_aload_n dX10_cheapest_64 rfl rfl ?_
    refine gm_get dX10_cheapest_65 ce_8_0 rfl inX10 12 (by decide) tb_956 rfl rfl ?_
    refine gm_iald dX10_cheapest_68 ce_8_9 ?_
    refine gm_aload_n dX10_cheapest_69 rfl rfl ?_
    refine gm_get dX10_cheapest_70 ce_8_0 rfl inX10 9 (by decide) tb_953 rfl rfl ?_
    refine gm_aload_n dX10_cheapest_73 rfl rfl ?_
    refine gm_get dX10_cheapest_74 ce_8_0 rfl inX10 12 (by decide) tb_956 rfl rfl ?_
    refine gm_iald dX10_cheapest_77 ce_8_8 ?_
    refine gm_icmp_ne (tgt := 114) dX10_cheapest_78 (by decide) ?_ ?_
    · refine gm_aload_n dX10_cheapest_114 rfl rfl ?_
      refine gm_callVi (As := []) dX10_cheapest_115 (t_X10_atHand w) ce_8_0 rfl cy_X10_atHand tb_1134 rfl rfl (rm_ok (by decide) (by decide)) (Nat.le_of_ble_eq_true rfl) (fun q6 => ?_)
      refine gm_istore (lv' := [some (.ref (E.1 8 0)), none, some (.int (y2)), some (.int (y3)), some (.int (y4)), none, some (.int (q6.1)), none, none]) dX10_cheapest_118 (by decide) rfl rfl ?_
      refine gm_aload_n dX10_cheapest_120 rfl rfl ?_
      refine gm_get dX10_cheapest_121 ce_8_0 rfl inX10 12 (by decide) tb_956 rfl rfl ?_
      refine gm_leti_st (fun u7 => ?_)
      refine gm_istore (lv' := [some (.ref (E.1 8 0)), none, some (.int (y2)), some (.int (y3)), some (.int (y4)), none, some (.int (q6.1)), some (.int (u7)), none]) dX10_cheapest_124 (by decide) rfl rfl ?_
      refine gm_aload_n dX10_cheapest_126 rfl rfl ?_
      refine gm_iload dX10_cheapest_127 rfl ?_
      refine gm_callVi (As := [.int (q6.1)]) dX10_cheapest_129 (t_X10_serves q6.2 q6.1) ce_8_0 rfl cy_X10_serves tb_1138 rfl rfl (rm_ok (by decide) (by decide)) (Nat.le_of_ble_eq_true rfl) (fun q8 => ?_)
      refine gm_if_eq (tgt := 139) dX10_cheapest_132 (by decide) ?_ ?_
      · refine gm_aload_n dX10_cheapest_139 rfl rfl ?_
        refine gm_aload_n dX10_cheapest_140 rfl rfl ?_
        refine gm_iload dX10_cheapest_141 rfl ?_
        refine gm_iconst (v := 2) dX10_cheapest_143 (by decide) ?_
        refine gm_callVi (As := [.int (q6.1), .int (2)]) dX10_cheapest_144 (t_X10_of q8.2 q6.1 2) ce_8_0 rfl cy_X10_of tb_1114 rfl rfl (rm_ok (by decide) (by decide)) (Nat.le_of_ble_eq_true rfl) (fun q9 => ?_)
        refine gm_iload_n dX10_cheapest_147 rfl rfl ?_
        refine gm_aload_n dX10_cheapest_148 rfl rfl ?_
        refine gm_get dX10_cheapest_149 ce_8_0 rfl inX10 7 (by decide) tb_951 rfl rfl ?_
        refine gm_aload_n dX10_cheapest_152 rfl rfl ?_
        refine gm_get dX10_cheapest_153 ce_8_0 rfl inX10 12 (by decide) tb_956 rfl rfl ?_
        refine gm_iald dX10_cheapest_156 ce_8_6 ?_
        refine gm_callVi (As := [.int (q9.1), .int (y2), .int (q9.2 8 6 (Int32.toNatClampNeg ((q9.2) 8 0 12)))]) dX10_cheapest_157 (t_X10_arrives q9.2 q9.1 y2 (q9.2 8 6 (Int32.toNatClampNeg ((q9.2) 8 0 12)))) ce_8_0 rfl cy_X10_arrives tb_1095 rfl rfl (rm_ok (by decide) (by decide)) (Nat.le_of_ble_eq_true rfl) (fun q10 => ?_)
        exact gm_weak (lsub_s (lsub_n (lsub_s (lsub_s (lsub_s (lsub_n (lsub_n (lsub_s (lsub_n lsub_0))))))))) (k_X10_cheapest_160 rc53 hrc53 q10.2 y2 y3 y4 u7 q10.1)
      · refine gm_iconst (v := 0) dX10_cheapest_135 (by decide) ?_
        refine gm_goto (tgt := 160) dX10_cheapest_136 (by decide) ?_
        exact gm_weak (lsub_s (lsub_n (lsub_s (lsub_s (lsub_s (lsub_n (lsub_n (lsub_s (lsub_n lsub_0))))))))) (k_X10_cheapest_160 rc53 hrc53 q8.2 y2 y3 y4 u7 0)
    · refine gm_aload_n dX10_cheapest_81 rfl rfl ?_
      refine gm_dup dX10_cheapest_82 rfl ?_
      refine gm_get dX10_cheapest_83 ce_8_0 rfl inX10 12 (by decide) tb_956 rfl rfl ?_
      refine gm_iconst (v := 1) dX10_cheapest_86 (by decide) ?_
      refine gm_isub dX10_cheapest_87 ?_
      refine gm_put dX10_cheapest_88 ce_8_0 rfl inX10 tyX10 tyX10_ok nmX10 12 (by decide) tb_956 rfl rfl (by decide +kernel) (fun _ => rfl) (fun _ => rfl) (fun w14 => ?_)
      refine gm_aload_n dX10_cheapest_91 rfl rfl ?_
      refine gm_get dX10_cheapest_92 ce_8_0 rfl inX10 12 (by decide) tb_956 rfl rfl ?_
      refine gm_if_lt (tgt := 53) dX10_cheapest_95 (by decide) ?_ ?_
      · exact gm_weak (lsub_s (lsub_n (lsub_s (lsub_s (lsub_s (lsub_n (lsub_n (lsub_n (lsub_n lsub_0))))))))) (hrc53 w14 y2 y3 y4)
      · refine gm_aload_n dX10_cheapest_98 rfl rfl ?_
        refine gm_get dX10_cheapest_99 ce_8_0 rfl inX10 10 (by decide) tb_954 rfl rfl ?_
        refine gm_aload_n dX10_cheapest_102 rfl rfl ?_
        refine gm_get dX10_cheapest_103 ce_8_0 rfl inX10 12 (by decide) tb_956 rfl rfl ?_
        refine gm_dup2 dX10_cheapest_106 rfl rfl ?_
        refine gm_iald dX10_cheapest_107 ce_8_9 ?_
        refine gm_iconst (v := 1) dX10_cheapest_108 (by decide) ?_
        refine gm_iadd dX10_cheapest_109 ?_
        refine gm_iast dX10_cheapest_110 ce_8_9 (fun w15 => ?_)
        refine gm_goto (tgt := 53) dX10_cheapest_111 (by decide) ?_
        exact gm_weak (lsub_s (lsub_n (lsub_s (lsub_s (lsub_s (lsub_n (lsub_n (lsub_n (lsub_n lsub_0))))))))) (hrc53 w15 y2 y3 y4)
noncomputable def h_X10_cheapest_53 : Nat → (Wd → Int32 → Int32 → Int32 → Option (Int32 × Wd))
  | 0 => fun _ _ _ _ => none
  | fu + 1 => b_X10_cheapest_53    (h_X10_cheapest_53    fu)
set_option maxRecDepth 100000 in
set_option maxHeartbeats 4000000 in
theorem k_X10_cheapest_53 {l : Launch} {E : En} : ∀ (fu : Nat) (w : Wd) (y2 : Int32) (y3 : Int32) (y4 : Int32), Gm l E cX10_cheapest 9 RX10 (some .int) (rmk (5)) eI (h_X10_cheapest_53    fu w y2 y3 y4) w 53 [some (.ref (E.1 8 0)), none, some (.int (y2)), some (.int (y3)), some (.int (y4)), none, none, none, none] []
  | 0, _, _, _, _ => gm_none
  | fu + 1, w, y2, y3, y4 => kb_X10_cheapest_53     (h_X10_cheapest_53    fu)  (fun w y2 y3 y4 => k_X10_cheapest_53      fu w y2 y3 y4) w y2 y3 y4
noncomputable def f_X10_cheapest (w : Wd) (x1 : Int32) (x2 : Int32) : Option (Int32 × Wd) :=
  (f_X10_isSwitch w x1).bind fun q1 =>
  if q1.1 = 0 then
    some ((-1), q1.2)
  else
    (f_X10_isNumber q1.2 x2).bind fun q2 =>
    if q2.1 = 0 then
      some ((-1), q2.2)
    else
      if ib 4 640 = true then
      leti (p_X10_bandOf q2.2 (q2.2 8 1 (Int32.toNatClampNeg 4))) fun u3 =>
      letw (wup q2.2 8 0 12 (-1)) fun w4 =>
      (f_X10_arrives w4 x1 x2 (-1)).bind fun q5 =>
      if q5.1 = 0 then
        some (0, q5.2)
      else
        h_X10_cheapest_53 FU q5.2 x2 u3 (-9)
      else none
set_option maxRecDepth 100000 in
set_option maxHeartbeats 4000000 in
theorem t_X10_cheapest {l : Launch} {E : En} (w : Wd) (x1 : Int32) (x2 : Int32) : ∀ q, f_X10_cheapest   w x1 x2 = some q → Mt l E yX10_cheapest cX10_cheapest 9 (some .int) (rmk 5) [.ref (E.1 8 0), .int (x1), .int (x2)] w (eI q.1) q.2 := by
  refine Mt.of [some (.ref (E.1 8 0)), some (.int (x1)), some (.int (x2)), none, none, none, none, none, none] (plainFor_of_name pn_X10) rfl (Nat.le_of_ble_eq_true rfl) rfl ?_
  unfold f_X10_cheapest
  refine gm_aload_n dX10_cheapest_0 rfl rfl ?_
  refine gm_iload_n dX10_cheapest_1 rfl rfl ?_
  refine gm_callVi (As := [.int (x1)]) dX10_cheapest_2 (t_X10_isSwitch w x1) ce_8_0 rfl cy_X10_isSwitch tb_1029 rfl rfl (rm_ok (by decide) (by decide)) (Nat.le_of_ble_eq_true rfl) (fun q1 => ?_)
  refine gm_if_eq (tgt := 15) dX10_cheapest_5 (by decide) ?_ ?_
  · refine gm_iconst (v := (-1)) dX10_cheapest_15 (by decide) ?_
    exact gm_iret dX10_cheapest_16
  · refine gm_iload_n dX10_cheapest_8 rfl rfl ?_
    refine gm_callSi (As := [.int (x2)]) dX10_cheapest_9 (t_X10_isNumber q1.2 x2) cy_X10_isNumber tb_1069 rfl rfl (rm_ok (by decide) (by decide)) (Nat.le_of_ble_eq_true rfl) (fun q2 => ?_)
    refine gm_if_ne (tgt := 17) dX10_cheapest_12 (by decide) ?_ ?_
    · refine gm_aload_n dX10_cheapest_17 rfl rfl ?_
      refine gm_aload_n dX10_cheapest_18 rfl rfl ?_
      refine gm_get dX10_cheapest_19 ce_8_0 rfl inX10 0 (by decide) tb_944 rfl rfl ?_
      refine gm_iconst (v := 4) dX10_cheapest_22 (by decide) ?_
      refine gm_iald dX10_cheapest_23 ce_8_1 ?_
      refine gm_callVk (As := [.int (q2.2 8 1 (Int32.toNatClampNeg 4))]) dX10_cheapest_24 (tk_X10_bandOf q2.2 (q2.2 8 1 (Int32.toNatClampNeg 4))) ce_8_0 rfl cy_X10_bandOf tb_1122 rfl rfl (rm_ok (by decide) (by decide)) (Nat.le_of_ble_eq_true rfl) ?_
      refine gm_leti_st (fun u3 => ?_)
      refine gm_istore_n (lv' := [some (.ref (E.1 8 0)), some (.int (x1)), some (.int (x2)), some (.int (u3)), none, none, none, none, none]) dX10_cheapest_27 rfl (by decide) rfl rfl ?_
      refine gm_aload_n dX10_cheapest_28 rfl rfl ?_
      refine gm_iconst (v := (-1)) dX10_cheapest_29 (by decide) ?_
      refine gm_put dX10_cheapest_30 ce_8_0 rfl inX10 tyX10 tyX10_ok nmX10 12 (by decide) tb_956 rfl rfl (by decide +kernel) (fun _ => rfl) (fun _ => rfl) (fun w4 => ?_)
      refine gm_bipush (v := (-9)) dX10_cheapest_33 (by decide) ?_
      refine gm_istore (lv' := [some (.ref (E.1 8 0)), some (.int (x1)), some (.int (x2)), some (.int (u3)), some (.int ((-9))), none, none, none, none]) dX10_cheapest_35 (by decide) rfl rfl ?_
      refine gm_aload_n dX10_cheapest_37 rfl rfl ?_
      refine gm_iload_n dX10_cheapest_38 rfl rfl ?_
      refine gm_iload_n dX10_cheapest_39 rfl rfl ?_
      refine gm_iconst (v := (-1)) dX10_cheapest_40 (by decide) ?_
      refine gm_callVi (As := [.int (x1), .int (x2), .int ((-1))]) dX10_cheapest_41 (t_X10_arrives w4 x1 x2 (-1)) ce_8_0 rfl cy_X10_arrives tb_1095 rfl rfl (rm_ok (by decide) (by decide)) (Nat.le_of_ble_eq_true rfl) (fun q5 => ?_)
      refine gm_istore (lv' := [some (.ref (E.1 8 0)), some (.int (x1)), some (.int (x2)), some (.int (u3)), some (.int ((-9))), some (.int (q5.1)), none, none, none]) dX10_cheapest_44 (by decide) rfl rfl ?_
      refine gm_iload dX10_cheapest_46 rfl ?_
      refine gm_if_ne (tgt := 53) dX10_cheapest_48 (by decide) ?_ ?_
      · exact gm_weak (lsub_s (lsub_n (lsub_s (lsub_s (lsub_s (lsub_n (lsub_n (lsub_n (lsub_n lsub_0))))))))) (k_X10_cheapest_53 FU q5.2 x2 u3 (-9))
      · refine gm_iconst (v := 0) dX10_cheapest_51 (by decide) ?_
        exact gm_iret dX10_cheapest_52
    · refine gm_iconst (v := (-1)) dX10_cheapest_15 (by decide) ?_
      exact gm_iret dX10_cheapest_16

noncomputable def f_X10_choice (w : Wd) (x1 : Int32) (x2 : Int32) (x3 : Int32) : Option (Int32 × Wd) :=
  (f_X10_isSwitch w x1).bind fun q1 =>
  if q1.1 = 0 then
    some ((-1), q1.2)
  else
    (f_X10_isNumber q1.2 x2).bind fun q2 =>
    if q2.1 = 0 then
      some ((-1), q2.2)
    else
      if 0 ≤ x3 then
        (f_X10_dials q2.2 x2 (-1)).bind fun q3 =>
        (f_X10_gathers q3.2 x1 0).bind fun q4 =>
        if q4.1 ≤ x3 then
          some ((-9), q4.2)
        else
          if ib x3 320 = true then
          some (q4.2 8 7 (Int32.toNatClampNeg x3), q4.2)
          else none
      else
        some ((-1), q2.2)
set_option maxRecDepth 100000 in
set_option maxHeartbeats 4000000 in
theorem t_X10_choice {l : Launch} {E : En} (w : Wd) (x1 : Int32) (x2 : Int32) (x3 : Int32) : ∀ q, f_X10_choice   w x1 x2 x3 = some q → Mt l E yX10_choice cX10_choice 5 (some .int) (rmk 4) [.ref (E.1 8 0), .int (x1), .int (x2), .int (x3)] w (eI q.1) q.2 := by
  refine Mt.of [some (.ref (E.1 8 0)), some (.int (x1)), some (.int (x2)), some (.int (x3)), none] (plainFor_of_name pn_X10) rfl (Nat.le_of_ble_eq_true rfl) rfl ?_
  unfold f_X10_choice
  refine gm_aload_n dX10_choice_0 rfl rfl ?_
  refine gm_iload_n dX10_choice_1 rfl rfl ?_
  refine gm_callVi (As := [.int (x1)]) dX10_choice_2 (t_X10_isSwitch w x1) ce_8_0 rfl cy_X10_isSwitch tb_1029 rfl rfl (rm_ok (by decide) (by decide)) (Nat.le_of_ble_eq_true rfl) (fun q1 => ?_)
  refine gm_if_eq (tgt := 19) dX10_choice_5 (by decide) ?_ ?_
  · refine gm_iconst (v := (-1)) dX10_choice_19 (by decide) ?_
    exact gm_iret dX10_choice_20
  · refine gm_iload_n dX10_choice_8 rfl rfl ?_
    refine gm_callSi (As := [.int (x2)]) dX10_choice_9 (t_X10_isNumber q1.2 x2) cy_X10_isNumber tb_1069 rfl rfl (rm_ok (by decide) (by decide)) (Nat.le_of_ble_eq_true rfl) (fun q2 => ?_)
    refine gm_if_eq (tgt := 19) dX10_choice_12 (by decide) ?_ ?_
    · refine gm_iconst (v := (-1)) dX10_choice_19 (by decide) ?_
      exact gm_iret dX10_choice_20
    · refine gm_iload_n dX10_choice_15 rfl rfl ?_
      refine gm_if_ge (tgt := 21) dX10_choice_16 (by decide) ?_ ?_
      · refine gm_aload_n dX10_choice_21 rfl rfl ?_
        refine gm_iload_n dX10_choice_22 rfl rfl ?_
        refine gm_iconst (v := (-1)) dX10_choice_23 (by decide) ?_
        refine gm_callVv (As := [.int (x2), .int ((-1))]) dX10_choice_24 (t_X10_dials q2.2 x2 (-1)) ce_8_0 rfl cy_X10_dials tb_1099 rfl rfl (rm_ok (by decide) (by decide)) (Nat.le_of_ble_eq_true rfl) (fun q3 => ?_)
        refine gm_aload_n dX10_choice_27 rfl rfl ?_
        refine gm_iload_n dX10_choice_28 rfl rfl ?_
        refine gm_iconst (v := 0) dX10_choice_29 (by decide) ?_
        refine gm_callVi (As := [.int (x1), .int (0)]) dX10_choice_30 (t_X10_gathers q3.2 x1 0) ce_8_0 rfl cy_X10_gathers tb_1110 rfl rfl (rm_ok (by decide) (by decide)) (Nat.le_of_ble_eq_true rfl) (fun q4 => ?_)
        refine gm_istore (lv' := [some (.ref (E.1 8 0)), some (.int (x1)), some (.int (x2)), some (.int (x3)), some (.int (q4.1))]) dX10_choice_33 (by decide) rfl rfl ?_
        refine gm_iload_n dX10_choice_35 rfl rfl ?_
        refine gm_iload dX10_choice_36 rfl ?_
        refine gm_icmp_ge (tgt := 50) dX10_choice_38 (by decide) ?_ ?_
        · refine gm_bipush (v := (-9)) dX10_choice_50 (by decide) ?_
          exact gm_iret dX10_choice_52
        · refine gm_aload_n dX10_choice_41 rfl rfl ?_
          refine gm_get dX10_choice_42 ce_8_0 rfl inX10 8 (by decide) tb_952 rfl rfl ?_
          refine gm_iload_n dX10_choice_45 rfl rfl ?_
          refine gm_iald dX10_choice_46 ce_8_7 ?_
          refine gm_goto (tgt := 52) dX10_choice_47 (by decide) ?_
          exact gm_iret dX10_choice_52
      · refine gm_iconst (v := (-1)) dX10_choice_19 (by decide) ?_
        exact gm_iret dX10_choice_20

noncomputable def f_X10_clear (w : Wd) : Option (Int32 × Wd) :=
  leti (w 8 0 19) fun u1 =>
  letw (wup w 8 0 19 0) fun w2 =>
  some (u1, w2)
set_option maxRecDepth 100000 in
set_option maxHeartbeats 4000000 in
theorem t_X10_clear {l : Launch} {E : En} (w : Wd) : ∀ q, f_X10_clear   w  = some q → Mt l E yX10_clear cX10_clear 2 (some .int) (rmk 1) [.ref (E.1 8 0)] w (eI q.1) q.2 := by
  refine Mt.of [some (.ref (E.1 8 0)), none] (plainFor_of_name pn_X10) rfl (Nat.le_of_ble_eq_true rfl) rfl ?_
  unfold f_X10_clear
  refine gm_aload_n dX10_clear_0 rfl rfl ?_
  refine gm_get dX10_clear_1 ce_8_0 rfl inX10 19 (by decide) tb_963 rfl rfl ?_
  refine gm_leti_st (fun u1 => ?_)
  refine gm_istore_n (lv' := [some (.ref (E.1 8 0)), some (.int (u1))]) dX10_clear_4 rfl (by decide) rfl rfl ?_
  refine gm_aload_n dX10_clear_5 rfl rfl ?_
  refine gm_iconst (v := 0) dX10_clear_6 (by decide) ?_
  refine gm_put dX10_clear_7 ce_8_0 rfl inX10 tyX10 tyX10_ok nmX10 19 (by decide) tb_963 rfl rfl (by decide +kernel) (fun _ => rfl) (fun _ => rfl) (fun w2 => ?_)
  refine gm_iload_n dX10_clear_10 rfl rfl ?_
  exact gm_iret dX10_clear_11

noncomputable def f_X10_num (w : Wd) (x1 : Int32) (x2 : Int32) : Option (Int32 × Wd) :=
  if ib ((5 * x1) + x2) 400 = true then
  some (w 8 16 (Int32.toNatClampNeg ((5 * x1) + x2)), w)
  else none
set_option maxRecDepth 100000 in
set_option maxHeartbeats 4000000 in
theorem t_X10_num {l : Launch} {E : En} (w : Wd) (x1 : Int32) (x2 : Int32) : ∀ q, f_X10_num   w x1 x2 = some q → Mt l E yX10_num cX10_num 3 (some .int) (rmk 1) [.ref (E.1 8 0), .int (x1), .int (x2)] w (eI q.1) q.2 := by
  refine Mt.of [some (.ref (E.1 8 0)), some (.int (x1)), some (.int (x2))] (plainFor_of_name pn_X10) rfl (Nat.le_of_ble_eq_true rfl) rfl ?_
  unfold f_X10_num
  refine gm_aload_n dX10_num_0 rfl rfl ?_
  refine gm_get dX10_num_1 ce_8_0 rfl inX10 23 (by decide) tb_967 rfl rfl ?_
  refine gm_iconst (v := 5) dX10_num_4 (by decide) ?_
  refine gm_iload_n dX10_num_5 rfl rfl ?_
  refine gm_imul dX10_num_6 ?_
  refine gm_iload_n dX10_num_7 rfl rfl ?_
  refine gm_iadd dX10_num_8 ?_
  refine gm_iald dX10_num_9 ce_8_16 ?_
  exact gm_iret dX10_num_10

noncomputable def j_X10_ports_65 (w : Wd) (y2 : Int32) (y3 : Int32) (y4 : Int32) : Option (Int32 × Wd) :=
  if ib ((350 + (2 * y3)) + 1) 640 = true then
  letw (wup w 8 1 (Int32.toNatClampNeg ((350 + (2 * y3)) + 1)) y2) fun w2 =>
  some (y4, w2)
  else none
set_option maxRecDepth 100000 in
set_option maxHeartbeats 4000000 in
theorem k_X10_ports_65 {l : Launch} {E : En} (w : Wd) (y2 : Int32) (y3 : Int32) (y4 : Int32) : Gm l E cX10_ports 5 RX10 (some .int) (rmk (2)) eI (j_X10_ports_65    w y2 y3 y4) w 65 [some (.ref (E.1 8 0)), none, some (.int (y2)), some (.int (y3)), some (.int (y4))] [] := by
  unfold j_X10_ports_65
  refine gm_aload_n dX10_ports_65 rfl rfl ?_
  refine gm_get dX10_ports_66 ce_8_0 rfl inX10 0 (by decide) tb_944 rfl rfl ?_
  refine gm_sipush (v := 350) dX10_ports_69 (by decide) ?_
  refine gm_iconst (v := 2) dX10_ports_72 (by decide) ?_
  refine gm_iload_n dX10_ports_73 rfl rfl ?_
  refine gm_imul dX10_ports_74 ?_
  refine gm_iadd dX10_ports_75 ?_
  refine gm_iconst (v := 1) dX10_ports_76 (by decide) ?_
  refine gm_iadd dX10_ports_77 ?_
  refine gm_iload_n dX10_ports_78 rfl rfl ?_
  refine gm_iast dX10_ports_79 ce_8_1 (fun w2 => ?_)
  refine gm_iload dX10_ports_80 rfl ?_
  exact gm_iret dX10_ports_82
noncomputable def j_X10_ports_29 (w : Wd) (y1 : Int32) (y2 : Int32) (y3 : Int32) (z0 : Int32) : Option (Int32 × Wd) :=
  if 0 ≤ y3 then
    j_X10_ports_65 w y2 y3 z0
  else
    if ib 2 640 = true then
    leti (w 8 1 (Int32.toNatClampNeg 2)) fun u3 =>
    if ib (350 + (2 * u3)) 640 = true then
    letw (wup w 8 1 (Int32.toNatClampNeg (350 + (2 * u3))) y1) fun w4 =>
    if ib 2 640 = true then
    if ib 2 640 = true then
    letw (wup w4 8 1 (Int32.toNatClampNeg 2) ((w4 8 1 (Int32.toNatClampNeg 2)) + 1)) fun w5 =>
    j_X10_ports_65 w5 y2 u3 z0
    else none
    else none
    else none
    else none
set_option maxRecDepth 100000 in
set_option maxHeartbeats 4000000 in
theorem k_X10_ports_29 {l : Launch} {E : En} (w : Wd) (y1 : Int32) (y2 : Int32) (y3 : Int32) (z0 : Int32) : Gm l E cX10_ports 5 RX10 (some .int) (rmk (2)) eI (j_X10_ports_29    w y1 y2 y3 z0) w 29 [some (.ref (E.1 8 0)), some (.int (y1)), some (.int (y2)), some (.int (y3)), none] [.int (z0)] := by
  unfold j_X10_ports_29
  refine gm_istore (lv' := [some (.ref (E.1 8 0)), some (.int (y1)), some (.int (y2)), some (.int (y3)), some (.int (z0))]) dX10_ports_29 (by decide) rfl rfl ?_
  refine gm_iload_n dX10_ports_31 rfl rfl ?_
  refine gm_if_ge (tgt := 65) dX10_ports_32 (by decide) ?_ ?_
  · exact gm_weak (lsub_s (lsub_n (lsub_s (lsub_s (lsub_s lsub_0))))) (k_X10_ports_65 w y2 y3 z0)
  · refine gm_aload_n dX10_ports_35 rfl rfl ?_
    refine gm_get dX10_ports_36 ce_8_0 rfl inX10 0 (by decide) tb_944 rfl rfl ?_
    refine gm_iconst (v := 2) dX10_ports_39 (by decide) ?_
    refine gm_iald dX10_ports_40 ce_8_1 ?_
    refine gm_leti_st (fun u3 => ?_)
    refine gm_istore_n (lv' := [some (.ref (E.1 8 0)), some (.int (y1)), some (.int (y2)), some (.int (u3)), some (.int (z0))]) dX10_ports_41 rfl (by decide) rfl rfl ?_
    refine gm_aload_n dX10_ports_42 rfl rfl ?_
    refine gm_get dX10_ports_43 ce_8_0 rfl inX10 0 (by decide) tb_944 rfl rfl ?_
    refine gm_sipush (v := 350) dX10_ports_46 (by decide) ?_
    refine gm_iconst (v := 2) dX10_ports_49 (by decide) ?_
    refine gm_iload_n dX10_ports_50 rfl rfl ?_
    refine gm_imul dX10_ports_51 ?_
    refine gm_iadd dX10_ports_52 ?_
    refine gm_iload_n dX10_ports_53 rfl rfl ?_
    refine gm_iast dX10_ports_54 ce_8_1 (fun w4 => ?_)
    refine gm_aload_n dX10_ports_55 rfl rfl ?_
    refine gm_get dX10_ports_56 ce_8_0 rfl inX10 0 (by decide) tb_944 rfl rfl ?_
    refine gm_iconst (v := 2) dX10_ports_59 (by decide) ?_
    refine gm_dup2 dX10_ports_60 rfl rfl ?_
    refine gm_iald dX10_ports_61 ce_8_1 ?_
    refine gm_iconst (v := 1) dX10_ports_62 (by decide) ?_
    refine gm_iadd dX10_ports_63 ?_
    refine gm_iast dX10_ports_64 ce_8_1 (fun w5 => ?_)
    exact gm_weak (lsub_s (lsub_n (lsub_s (lsub_s (lsub_s lsub_0))))) (k_X10_ports_65 w5 y2 u3 z0)
noncomputable def f_X10_ports (w : Wd) (x1 : Int32) (x2 : Int32) : Option (Int32 × Wd) :=
  (f_X10_portOf w x1).bind fun q1 =>
  if 0 ≤ q1.1 then
    if ib ((350 + (2 * q1.1)) + 1) 640 = true then
    j_X10_ports_29 q1.2 x1 x2 q1.1 (q1.2 8 1 (Int32.toNatClampNeg ((350 + (2 * q1.1)) + 1)))
    else none
  else
    j_X10_ports_29 q1.2 x1 x2 q1.1 (-9)
set_option maxRecDepth 100000 in
set_option maxHeartbeats 4000000 in
theorem t_X10_ports {l : Launch} {E : En} (w : Wd) (x1 : Int32) (x2 : Int32) : ∀ q, f_X10_ports   w x1 x2 = some q → Mt l E yX10_ports cX10_ports 5 (some .int) (rmk 2) [.ref (E.1 8 0), .int (x1), .int (x2)] w (eI q.1) q.2 := by
  refine Mt.of [some (.ref (E.1 8 0)), some (.int (x1)), some (.int (x2)), none, none] (plainFor_of_name pn_X10) rfl (Nat.le_of_ble_eq_true rfl) rfl ?_
  unfold f_X10_ports
  refine gm_aload_n dX10_ports_0 rfl rfl ?_
  refine gm_iload_n dX10_ports_1 rfl rfl ?_
  refine gm_callVi (As := [.int (x1)]) dX10_ports_2 (t_X10_portOf w x1) ce_8_0 rfl cy_X10_portOf tb_1072 rfl rfl (rm_ok (by decide) (by decide)) (Nat.le_of_ble_eq_true rfl) (fun q1 => ?_)
  refine gm_istore_n (lv' := [some (.ref (E.1 8 0)), some (.int (x1)), some (.int (x2)), some (.int (q1.1)), none]) dX10_ports_5 rfl (by decide) rfl rfl ?_
  refine gm_iload_n dX10_ports_6 rfl rfl ?_
  refine gm_if_ge (tgt := 15) dX10_ports_7 (by decide) ?_ ?_
  · refine gm_aload_n dX10_ports_15 rfl rfl ?_
    refine gm_get dX10_ports_16 ce_8_0 rfl inX10 0 (by decide) tb_944 rfl rfl ?_
    refine gm_sipush (v := 350) dX10_ports_19 (by decide) ?_
    refine gm_iconst (v := 2) dX10_ports_22 (by decide) ?_
    refine gm_iload_n dX10_ports_23 rfl rfl ?_
    refine gm_imul dX10_ports_24 ?_
    refine gm_iadd dX10_ports_25 ?_
    refine gm_iconst (v := 1) dX10_ports_26 (by decide) ?_
    refine gm_iadd dX10_ports_27 ?_
    refine gm_iald dX10_ports_28 ce_8_1 ?_
    exact gm_weak (lsub_s (lsub_s (lsub_s (lsub_s (lsub_n lsub_0))))) (k_X10_ports_29 q1.2 x1 x2 q1.1 (q1.2 8 1 (Int32.toNatClampNeg ((350 + (2 * q1.1)) + 1))))
  · refine gm_bipush (v := (-9)) dX10_ports_10 (by decide) ?_
    refine gm_goto (tgt := 29) dX10_ports_12 (by decide) ?_
    exact gm_weak (lsub_s (lsub_s (lsub_s (lsub_s (lsub_n lsub_0))))) (k_X10_ports_29 q1.2 x1 x2 q1.1 (-9))

noncomputable def j_X10_does_177 (w : Wd) (y1 : Int32) (y2 : Int32) (y3 : Int32) (z0 : Int32) : Option (Int32 × Wd) :=
  if z0 = 0 then
    if zb z0 = true then
    some (z0, w)
    else none
  else
    (f_X10_num w y1 2).bind fun q7 =>
    (f_X10_num q7.2 y1 3).bind fun q8 =>
    (f_X10_num q8.2 y1 4).bind fun q9 =>
    (f_X10_routes q9.2 y2 q7.1 y3 q8.1 q9.1).bind fun q10 =>
    if zb z0 = true then
    some (z0, q10.2)
    else none
set_option maxRecDepth 100000 in
set_option maxHeartbeats 4000000 in
theorem k_X10_does_177 {l : Launch} {E : En} (w : Wd) (y1 : Int32) (y2 : Int32) (y3 : Int32) (z0 : Int32) : Gm l E cX10_does 6 RX10 (some .boolean) (rmk (4)) eI (j_X10_does_177    w y1 y2 y3 z0) w 177 [some (.ref (E.1 8 0)), some (.int (y1)), some (.int (y2)), some (.int (y3)), none, none] [.int (z0)] := by
  unfold j_X10_does_177
  refine gm_istore (lv' := [some (.ref (E.1 8 0)), some (.int (y1)), some (.int (y2)), some (.int (y3)), some (.int (z0)), none]) dX10_does_177 (by decide) rfl rfl ?_
  refine gm_iload dX10_does_179 rfl ?_
  refine gm_if_eq (tgt := 208) dX10_does_181 (by decide) ?_ ?_
  · refine gm_iload dX10_does_208 rfl ?_
    exact gm_zret_g dX10_does_210
  · refine gm_aload_n dX10_does_184 rfl rfl ?_
    refine gm_iload_n dX10_does_185 rfl rfl ?_
    refine gm_aload_n dX10_does_186 rfl rfl ?_
    refine gm_iload_n dX10_does_187 rfl rfl ?_
    refine gm_iconst (v := 2) dX10_does_188 (by decide) ?_
    refine gm_callVi (As := [.int (y1), .int (2)]) dX10_does_189 (t_X10_num w y1 2) ce_8_0 rfl cy_X10_num tb_1255 rfl rfl (rm_ok (by decide) (by decide)) (Nat.le_of_ble_eq_true rfl) (fun q7 => ?_)
    refine gm_iload_n dX10_does_192 rfl rfl ?_
    refine gm_aload_n dX10_does_193 rfl rfl ?_
    refine gm_iload_n dX10_does_194 rfl rfl ?_
    refine gm_iconst (v := 3) dX10_does_195 (by decide) ?_
    refine gm_callVi (As := [.int (y1), .int (3)]) dX10_does_196 (t_X10_num q7.2 y1 3) ce_8_0 rfl cy_X10_num tb_1255 rfl rfl (rm_ok (by decide) (by decide)) (Nat.le_of_ble_eq_true rfl) (fun q8 => ?_)
    refine gm_aload_n dX10_does_199 rfl rfl ?_
    refine gm_iload_n dX10_does_200 rfl rfl ?_
    refine gm_iconst (v := 4) dX10_does_201 (by decide) ?_
    refine gm_callVi (As := [.int (y1), .int (4)]) dX10_does_202 (t_X10_num q8.2 y1 4) ce_8_0 rfl cy_X10_num tb_1255 rfl rfl (rm_ok (by decide) (by decide)) (Nat.le_of_ble_eq_true rfl) (fun q9 => ?_)
    refine gm_callVv (As := [.int (y2), .int (q7.1), .int (y3), .int (q8.1), .int (q9.1)]) dX10_does_205 (t_X10_routes q9.2 y2 q7.1 y3 q8.1 q9.1) ce_8_0 rfl cy_X10_routes tb_1057 rfl rfl (rm_ok (by decide) (by decide)) (Nat.le_of_ble_eq_true rfl) (fun q10 => ?_)
    refine gm_iload dX10_does_208 rfl ?_
    exact gm_zret_g dX10_does_210
noncomputable def j_X10_does_111 (w : Wd) (y2 : Int32) (y3 : Int32) (z0 : Int32) : Option (Int32 × Wd) :=
  if z0 = 0 then
    if zb z0 = true then
    some (z0, w)
    else none
  else
    (f_X10_ports w y2 y3).bind fun q12 =>
    if zb z0 = true then
    some (z0, q12.2)
    else none
set_option maxRecDepth 100000 in
set_option maxHeartbeats 4000000 in
theorem k_X10_does_111 {l : Launch} {E : En} (w : Wd) (y2 : Int32) (y3 : Int32) (z0 : Int32) : Gm l E cX10_does 6 RX10 (some .boolean) (rmk (4)) eI (j_X10_does_111    w y2 y3 z0) w 111 [some (.ref (E.1 8 0)), none, some (.int (y2)), some (.int (y3)), none, none] [.int (z0)] := by
  unfold j_X10_does_111
  refine gm_istore (lv' := [some (.ref (E.1 8 0)), none, some (.int (y2)), some (.int (y3)), some (.int (z0)), none]) dX10_does_111 (by decide) rfl rfl ?_
  refine gm_iload dX10_does_113 rfl ?_
  refine gm_if_eq (tgt := 127) dX10_does_115 (by decide) ?_ ?_
  · refine gm_bipush (v := (-9)) dX10_does_127 (by decide) ?_
    refine gm_istore (lv' := [some (.ref (E.1 8 0)), none, some (.int (y2)), some (.int (y3)), some (.int (z0)), some (.int ((-9)))]) dX10_does_129 (by decide) rfl rfl ?_
    refine gm_iload dX10_does_131 rfl ?_
    exact gm_zret_g dX10_does_133
  · refine gm_aload_n dX10_does_118 rfl rfl ?_
    refine gm_iload_n dX10_does_119 rfl rfl ?_
    refine gm_iload_n dX10_does_120 rfl rfl ?_
    refine gm_callVi (As := [.int (y2), .int (y3)]) dX10_does_121 (t_X10_ports w y2 y3) ce_8_0 rfl cy_X10_ports tb_1076 rfl rfl (rm_ok (by decide) (by decide)) (Nat.le_of_ble_eq_true rfl) (fun q12 => ?_)
    refine gm_goto (tgt := 129) dX10_does_124 (by decide) ?_
    refine gm_istore (lv' := [some (.ref (E.1 8 0)), none, some (.int (y2)), some (.int (y3)), some (.int (z0)), some (.int (q12.1))]) dX10_does_129 (by decide) rfl rfl ?_
    refine gm_iload dX10_does_131 rfl ?_
    exact gm_zret_g dX10_does_133
noncomputable def f_X10_does (w : Wd) (x1 : Int32) : Option (Int32 × Wd) :=
  (f_X10_num w x1 0).bind fun q1 =>
  (f_X10_num q1.2 x1 1).bind fun q2 =>
  if ib x1 80 = true then
  if (q2.2 8 15 (Int32.toNatClampNeg x1)) = 108 then
    (f_X10_isSwitch q2.2 q1.1).bind fun q14 =>
    if q14.1 = 0 then
      if ib (10 + (q1.1 - q1.1 / 8 * 8)) 640 = true then
      if ib (10 + (q1.1 - q1.1 / 8 * 8)) 640 = true then
      letw (wup q14.2 8 1 (Int32.toNatClampNeg (10 + (q1.1 - q1.1 / 8 * 8))) (q14.2 8 1 (Int32.toNatClampNeg (10 + (q1.1 - q1.1 / 8 * 8))))) fun w15 =>
      if zb q14.1 = true then
      some (q14.1, w15)
      else none
      else none
      else none
    else
      if ib (10 + (q1.1 - q1.1 / 8 * 8)) 640 = true then
      letw (wup q14.2 8 1 (Int32.toNatClampNeg (10 + (q1.1 - q1.1 / 8 * 8))) 1) fun w16 =>
      if zb q14.1 = true then
      some (q14.1, w16)
      else none
      else none
  else
    if ib x1 80 = true then
    if (q2.2 8 15 (Int32.toNatClampNeg x1)) = 112 then
      (f_X10_isSwitch q2.2 q2.1).bind fun q11 =>
      if q11.1 = 0 then
        j_X10_does_111 q11.2 q1.1 q2.1 0
      else
        if ib 2 640 = true then
        if (q11.2 8 1 (Int32.toNatClampNeg 2)) < 30 then
          j_X10_does_111 q11.2 q1.1 q2.1 1
        else
          (f_X10_portOf q11.2 q1.1).bind fun q13 =>
          if q13.1 < 0 then
            j_X10_does_111 q13.2 q1.1 q2.1 0
          else
            j_X10_does_111 q13.2 q1.1 q2.1 1
        else none
    else
      (f_X10_num q2.2 x1 2).bind fun q3 =>
      (f_X10_num q3.2 x1 3).bind fun q4 =>
      (f_X10_num q4.2 x1 4).bind fun q5 =>
      (f_X10_isRoute q5.2 q1.1 q3.1 q2.1 q4.1 q5.1).bind fun q6 =>
      if q6.1 = 0 then
        j_X10_does_177 q6.2 x1 q1.1 q2.1 0
      else
        if ib 1 640 = true then
        if 40 ≤ (q6.2 8 1 (Int32.toNatClampNeg 1)) then
          j_X10_does_177 q6.2 x1 q1.1 q2.1 0
        else
          j_X10_does_177 q6.2 x1 q1.1 q2.1 1
        else none
    else none
  else none
set_option maxRecDepth 100000 in
set_option maxHeartbeats 4000000 in
theorem t_X10_does {l : Launch} {E : En} (w : Wd) (x1 : Int32) : ∀ q, f_X10_does   w x1 = some q → Mt l E yX10_does cX10_does 6 (some .boolean) (rmk 4) [.ref (E.1 8 0), .int (x1)] w (eI q.1) q.2 := by
  refine Mt.of [some (.ref (E.1 8 0)), some (.int (x1)), none, none, none, none] (plainFor_of_name pn_X10) rfl (Nat.le_of_ble_eq_true rfl) rfl ?_
  unfold f_X10_does
  refine gm_aload_n dX10_does_0 rfl rfl ?_
  refine gm_iload_n dX10_does_1 rfl rfl ?_
  refine gm_iconst (v := 0) dX10_does_2 (by decide) ?_
  refine gm_callVi (As := [.int (x1), .int (0)]) dX10_does_3 (t_X10_num w x1 0) ce_8_0 rfl cy_X10_num tb_1255 rfl rfl (rm_ok (by decide) (by decide)) (Nat.le_of_ble_eq_true rfl) (fun q1 => ?_)
  refine gm_istore_n (lv' := [some (.ref (E.1 8 0)), some (.int (x1)), some (.int (q1.1)), none, none, none]) dX10_does_6 rfl (by decide) rfl rfl ?_
  refine gm_aload_n dX10_does_7 rfl rfl ?_
  refine gm_iload_n dX10_does_8 rfl rfl ?_
  refine gm_iconst (v := 1) dX10_does_9 (by decide) ?_
  refine gm_callVi (As := [.int (x1), .int (1)]) dX10_does_10 (t_X10_num q1.2 x1 1) ce_8_0 rfl cy_X10_num tb_1255 rfl rfl (rm_ok (by decide) (by decide)) (Nat.le_of_ble_eq_true rfl) (fun q2 => ?_)
  refine gm_istore_n (lv' := [some (.ref (E.1 8 0)), some (.int (x1)), some (.int (q1.1)), some (.int (q2.1)), none, none]) dX10_does_13 rfl (by decide) rfl rfl ?_
  refine gm_aload_n dX10_does_14 rfl rfl ?_
  refine gm_get dX10_does_15 ce_8_0 rfl inX10 22 (by decide) tb_966 rfl rfl ?_
  refine gm_iload_n dX10_does_18 rfl rfl ?_
  refine gm_iald dX10_does_19 ce_8_15 ?_
  refine gm_bipush (v := 108) dX10_does_20 (by decide) ?_
  refine gm_icmp_ne (tgt := 68) dX10_does_22 (by decide) ?_ ?_
  · refine gm_aload_n dX10_does_68 rfl rfl ?_
    refine gm_get dX10_does_69 ce_8_0 rfl inX10 22 (by decide) tb_966 rfl rfl ?_
    refine gm_iload_n dX10_does_72 rfl rfl ?_
    refine gm_iald dX10_does_73 ce_8_15 ?_
    refine gm_bipush (v := 112) dX10_does_74 (by decide) ?_
    refine gm_icmp_ne (tgt := 134) dX10_does_76 (by decide) ?_ ?_
    · refine gm_aload_n dX10_does_134 rfl rfl ?_
      refine gm_iload_n dX10_does_135 rfl rfl ?_
      refine gm_aload_n dX10_does_136 rfl rfl ?_
      refine gm_iload_n dX10_does_137 rfl rfl ?_
      refine gm_iconst (v := 2) dX10_does_138 (by decide) ?_
      refine gm_callVi (As := [.int (x1), .int (2)]) dX10_does_139 (t_X10_num q2.2 x1 2) ce_8_0 rfl cy_X10_num tb_1255 rfl rfl (rm_ok (by decide) (by decide)) (Nat.le_of_ble_eq_true rfl) (fun q3 => ?_)
      refine gm_iload_n dX10_does_142 rfl rfl ?_
      refine gm_aload_n dX10_does_143 rfl rfl ?_
      refine gm_iload_n dX10_does_144 rfl rfl ?_
      refine gm_iconst (v := 3) dX10_does_145 (by decide) ?_
      refine gm_callVi (As := [.int (x1), .int (3)]) dX10_does_146 (t_X10_num q3.2 x1 3) ce_8_0 rfl cy_X10_num tb_1255 rfl rfl (rm_ok (by decide) (by decide)) (Nat.le_of_ble_eq_true rfl) (fun q4 => ?_)
      refine gm_aload_n dX10_does_149 rfl rfl ?_
      refine gm_iload_n dX10_does_150 rfl rfl ?_
      refine gm_iconst (v := 4) dX10_does_151 (by decide) ?_
      refine gm_callVi (As := [.int (x1), .int (4)]) dX10_does_152 (t_X10_num q4.2 x1 4) ce_8_0 rfl cy_X10_num tb_1255 rfl rfl (rm_ok (by decide) (by decide)) (Nat.le_of_ble_eq_true rfl) (fun q5 => ?_)
      refine gm_callVi (As := [.int (q1.1), .int (q3.1), .int (q2.1), .int (q4.1), .int (q5.1)]) dX10_does_155 (t_X10_isRoute q5.2 q1.1 q3.1 q2.1 q4.1 q5.1) ce_8_0 rfl cy_X10_isRoute tb_1052 rfl rfl (rm_ok (by decide) (by decide)) (Nat.le_of_ble_eq_true rfl) (fun q6 => ?_)
      refine gm_if_eq (tgt := 176) dX10_does_158 (by decide) ?_ ?_
      · refine gm_iconst (v := 0) dX10_does_176 (by decide) ?_
        exact gm_weak (lsub_s (lsub_s (lsub_s (lsub_s (lsub_n (lsub_n lsub_0)))))) (k_X10_does_177 q6.2 x1 q1.1 q2.1 0)
      · refine gm_aload_n dX10_does_161 rfl rfl ?_
        refine gm_get dX10_does_162 ce_8_0 rfl inX10 0 (by decide) tb_944 rfl rfl ?_
        refine gm_iconst (v := 1) dX10_does_165 (by decide) ?_
        refine gm_iald dX10_does_166 ce_8_1 ?_
        refine gm_bipush (v := 40) dX10_does_167 (by decide) ?_
        refine gm_icmp_ge (tgt := 176) dX10_does_169 (by decide) ?_ ?_
        · refine gm_iconst (v := 0) dX10_does_176 (by decide) ?_
          exact gm_weak (lsub_s (lsub_s (lsub_s (lsub_s (lsub_n (lsub_n lsub_0)))))) (k_X10_does_177 q6.2 x1 q1.1 q2.1 0)
        · refine gm_iconst (v := 1) dX10_does_172 (by decide) ?_
          refine gm_goto (tgt := 177) dX10_does_173 (by decide) ?_
          exact gm_weak (lsub_s (lsub_s (lsub_s (lsub_s (lsub_n (lsub_n lsub_0)))))) (k_X10_does_177 q6.2 x1 q1.1 q2.1 1)
    · refine gm_aload_n dX10_does_79 rfl rfl ?_
      refine gm_iload_n dX10_does_80 rfl rfl ?_
      refine gm_callVi (As := [.int (q2.1)]) dX10_does_81 (t_X10_isSwitch q2.2 q2.1) ce_8_0 rfl cy_X10_isSwitch tb_1029 rfl rfl (rm_ok (by decide) (by decide)) (Nat.le_of_ble_eq_true rfl) (fun q11 => ?_)
      refine gm_if_eq (tgt := 110) dX10_does_84 (by decide) ?_ ?_
      · refine gm_iconst (v := 0) dX10_does_110 (by decide) ?_
        exact gm_weak (lsub_s (lsub_n (lsub_s (lsub_s (lsub_n (lsub_n lsub_0)))))) (k_X10_does_111 q11.2 q1.1 q2.1 0)
      · refine gm_aload_n dX10_does_87 rfl rfl ?_
        refine gm_get dX10_does_88 ce_8_0 rfl inX10 0 (by decide) tb_944 rfl rfl ?_
        refine gm_iconst (v := 2) dX10_does_91 (by decide) ?_
        refine gm_iald dX10_does_92 ce_8_1 ?_
        refine gm_bipush (v := 30) dX10_does_93 (by decide) ?_
        refine gm_icmp_lt (tgt := 106) dX10_does_95 (by decide) ?_ ?_
        · refine gm_iconst (v := 1) dX10_does_106 (by decide) ?_
          refine gm_goto (tgt := 111) dX10_does_107 (by decide) ?_
          exact gm_weak (lsub_s (lsub_n (lsub_s (lsub_s (lsub_n (lsub_n lsub_0)))))) (k_X10_does_111 q11.2 q1.1 q2.1 1)
        · refine gm_aload_n dX10_does_98 rfl rfl ?_
          refine gm_iload_n dX10_does_99 rfl rfl ?_
          refine gm_callVi (As := [.int (q1.1)]) dX10_does_100 (t_X10_portOf q11.2 q1.1) ce_8_0 rfl cy_X10_portOf tb_1072 rfl rfl (rm_ok (by decide) (by decide)) (Nat.le_of_ble_eq_true rfl) (fun q13 => ?_)
          refine gm_if_lt (tgt := 110) dX10_does_103 (by decide) ?_ ?_
          · refine gm_iconst (v := 0) dX10_does_110 (by decide) ?_
            exact gm_weak (lsub_s (lsub_n (lsub_s (lsub_s (lsub_n (lsub_n lsub_0)))))) (k_X10_does_111 q13.2 q1.1 q2.1 0)
          · refine gm_iconst (v := 1) dX10_does_106 (by decide) ?_
            refine gm_goto (tgt := 111) dX10_does_107 (by decide) ?_
            exact gm_weak (lsub_s (lsub_n (lsub_s (lsub_s (lsub_n (lsub_n lsub_0)))))) (k_X10_does_111 q13.2 q1.1 q2.1 1)
  · refine gm_aload_n dX10_does_25 rfl rfl ?_
    refine gm_iload_n dX10_does_26 rfl rfl ?_
    refine gm_callVi (As := [.int (q1.1)]) dX10_does_27 (t_X10_isSwitch q2.2 q1.1) ce_8_0 rfl cy_X10_isSwitch tb_1029 rfl rfl (rm_ok (by decide) (by decide)) (Nat.le_of_ble_eq_true rfl) (fun q14 => ?_)
    refine gm_istore (lv' := [some (.ref (E.1 8 0)), some (.int (x1)), some (.int (q1.1)), some (.int (q2.1)), some (.int (q14.1)), none]) dX10_does_30 (by decide) rfl rfl ?_
    refine gm_aload_n dX10_does_32 rfl rfl ?_
    refine gm_get dX10_does_33 ce_8_0 rfl inX10 0 (by decide) tb_944 rfl rfl ?_
    refine gm_bipush (v := 10) dX10_does_36 (by decide) ?_
    refine gm_iload_n dX10_does_38 rfl rfl ?_
    refine gm_bipush (v := 8) dX10_does_39 (by decide) ?_
    refine gm_irem dX10_does_41 (by decide) ?_
    refine gm_iadd dX10_does_42 ?_
    refine gm_iload dX10_does_43 rfl ?_
    refine gm_if_eq (tgt := 52) dX10_does_45 (by decide) ?_ ?_
    · refine gm_aload_n dX10_does_52 rfl rfl ?_
      refine gm_get dX10_does_53 ce_8_0 rfl inX10 0 (by decide) tb_944 rfl rfl ?_
      refine gm_bipush (v := 10) dX10_does_56 (by decide) ?_
      refine gm_iload_n dX10_does_58 rfl rfl ?_
      refine gm_bipush (v := 8) dX10_does_59 (by decide) ?_
      refine gm_irem dX10_does_61 (by decide) ?_
      refine gm_iadd dX10_does_62 ?_
      refine gm_iald dX10_does_63 ce_8_1 ?_
      refine gm_iast dX10_does_64 ce_8_1 (fun w15 => ?_)
      refine gm_iload dX10_does_65 rfl ?_
      exact gm_zret_g dX10_does_67
    · refine gm_iconst (v := 1) dX10_does_48 (by decide) ?_
      refine gm_goto (tgt := 64) dX10_does_49 (by decide) ?_
      refine gm_iast dX10_does_64 ce_8_1 (fun w16 => ?_)
      refine gm_iload dX10_does_65 rfl ?_
      exact gm_zret_g dX10_does_67

noncomputable def b_X10_end_60 (rc60 : Wd → Int32 → Int32 → Int32 → Int32 → Option (Int32 × Wd)) (w : Wd) (y2 : Int32) (y3 : Int32) (y4 : Int32) (y5 : Int32) : Option (Int32 × Wd) :=
  if ib (y2 + 4) 640 = true then
  if (w 8 1 (Int32.toNatClampNeg (y2 + 4))) ≤ y5 then
    if ib y2 640 = true then
    letw (wup w 8 1 (Int32.toNatClampNeg y2) 0) fun w5 =>
    if ib 5 640 = true then
    if ib 5 640 = true then
    letw (wup w5 8 1 (Int32.toNatClampNeg 5) ((w5 8 1 (Int32.toNatClampNeg 5)) - 1)) fun w6 =>
    some (y4, w6)
    else none
    else none
    else none
  else
    if ib ((y2 + 5) + y5) 640 = true then
    leti (w 8 1 (Int32.toNatClampNeg ((y2 + 5) + y5))) fun u7 =>
    if ib (y2 + 3) 640 = true then
    (f_X10_costOf w u7 (w 8 1 (Int32.toNatClampNeg (y2 + 3)))).bind fun q8 =>
    leti (q8.1 * y3) fun u9 =>
    (f_X10_of q8.2 u7 0).bind fun q10 =>
    (f_X10_of q10.2 u7 2).bind fun q11 =>
    if ib ((570 + (8 * q10.1)) + q11.1) 640 = true then
    if ib ((570 + (8 * q10.1)) + q11.1) 640 = true then
    letw (wup q11.2 8 1 (Int32.toNatClampNeg ((570 + (8 * q10.1)) + q11.1)) ((q11.2 8 1 (Int32.toNatClampNeg ((570 + (8 * q10.1)) + q11.1))) + u9)) fun w12 =>
    if ib ((30 + (8 * u7)) + 7) 640 = true then
    (f_X10_serves w12 u7).bind fun q13 =>
    if q13.1 = 0 then
      if ib ((30 + (8 * u7)) + 7) 640 = true then
      letw (wup q13.2 8 1 (Int32.toNatClampNeg ((30 + (8 * u7)) + 7)) ((w12 8 1 (Int32.toNatClampNeg ((30 + (8 * u7)) + 7))) - 1)) fun w14 =>
      leti (y4 + u9) fun u15 =>
      rc60 w14 y2 y3 u15 (y5 + 1)
      else none
    else
      if ib ((30 + (8 * u7)) + 7) 640 = true then
      letw (wup q13.2 8 1 (Int32.toNatClampNeg ((30 + (8 * u7)) + 7)) ((w12 8 1 (Int32.toNatClampNeg ((30 + (8 * u7)) + 7))) - 0)) fun w16 =>
      leti (y4 + u9) fun u17 =>
      rc60 w16 y2 y3 u17 (y5 + 1)
      else none
    else none
    else none
    else none
    else none
    else none
  else none
set_option maxRecDepth 100000 in
set_option maxHeartbeats 4000000 in
theorem kb_X10_end_60 {l : Launch} {E : En} (rc60 : Wd → Int32 → Int32 → Int32 → Int32 → Option (Int32 × Wd)) (hrc60 : ∀ (w : Wd) (y2 : Int32) (y3 : Int32) (y4 : Int32) (y5 : Int32), Gm l E cX10_end 8 RX10 (some .int) (rmk (4)) eI (rc60 w y2 y3 y4 y5) w 60 [some (.ref (E.1 8 0)), none, some (.int (y2)), some (.int (y3)), some (.int (y4)), some (.int (y5)), none, none] []) (w : Wd) (y2 : Int32) (y3 : Int32) (y4 : Int32) (y5 : Int32) : Gm l E cX10_end 8 RX10 (some .int) (rmk (4)) eI (b_X10_end_60   rc60 w y2 y3 y4 y5) w 60 [some (.ref (E.1 8 0)), none, some (.int (y2)), some (.int (y3)), some (.int (y4)), some (.int (y5)), none, none] [] := by
  unfold b_X10_end_60
  refine gm_iload dX10_end_60 rfl ?_
  refine gm_aload_n dX10_end_62 rfl rfl ?_
  refine gm_get dX10_end_63 ce_8_0 rfl inX10 0 (by decide) tb_944 rfl rfl ?_
  refine gm_iload_n dX10_end_66 rfl rfl ?_
  refine gm_iconst (v := 4) dX10_end_67 (by decide) ?_
  refine gm_iadd dX10_end_68 ?_
  refine gm_iald dX10_end_69 ce_8_1 ?_
  refine gm_icmp_ge (tgt := 182) dX10_end_70 (by decide) ?_ ?_
  · refine gm_aload_n dX10_end_182 rfl rfl ?_
    refine gm_get dX10_end_183 ce_8_0 rfl inX10 0 (by decide) tb_944 rfl rfl ?_
    refine gm_iload_n dX10_end_186 rfl rfl ?_
    refine gm_iconst (v := 0) dX10_end_187 (by decide) ?_
    refine gm_iast dX10_end_188 ce_8_1 (fun w5 => ?_)
    refine gm_aload_n dX10_end_189 rfl rfl ?_
    refine gm_get dX10_end_190 ce_8_0 rfl inX10 0 (by decide) tb_944 rfl rfl ?_
    refine gm_iconst (v := 5) dX10_end_193 (by decide) ?_
    refine gm_dup2 dX10_end_194 rfl rfl ?_
    refine gm_iald dX10_end_195 ce_8_1 ?_
    refine gm_iconst (v := 1) dX10_end_196 (by decide) ?_
    refine gm_isub dX10_end_197 ?_
    refine gm_iast dX10_end_198 ce_8_1 (fun w6 => ?_)
    refine gm_iload dX10_end_199 rfl ?_
    exact gm_iret dX10_end_201
  · refine gm_aload_n dX10_end_73 rfl rfl ?_
    refine gm_get dX10_end_74 ce_8_0 rfl inX10 0 (by decide) tb_944 rfl rfl ?_
    refine gm_iload_n dX10_end_77 rfl rfl ?_
    refine gm_iconst (v := 5) dX10_end_78 (by decide) ?_
    refine gm_iadd dX10_end_79 ?_
    refine gm_iload dX10_end_80 rfl ?_
    refine gm_iadd dX10_end_82 ?_
    refine gm_iald dX10_end_83 ce_8_1 ?_
    refine gm_leti_st (fun u7 => ?_)
    refine gm_istore (lv' := [some (.ref (E.1 8 0)), none, some (.int (y2)), some (.int (y3)), some (.int (y4)), some (.int (y5)), some (.int (u7)), none]) dX10_end_84 (by decide) rfl rfl ?_
    refine gm_aload_n dX10_end_86 rfl rfl ?_
    refine gm_iload dX10_end_87 rfl ?_
    refine gm_aload_n dX10_end_89 rfl rfl ?_
    refine gm_get dX10_end_90 ce_8_0 rfl inX10 0 (by decide) tb_944 rfl rfl ?_
    refine gm_iload_n dX10_end_93 rfl rfl ?_
    refine gm_iconst (v := 3) dX10_end_94 (by decide) ?_
    refine gm_iadd dX10_end_95 ?_
    refine gm_iald dX10_end_96 ce_8_1 ?_
    refine gm_callVi (As := [.int (u7), .int (w 8 1 (Int32.toNatClampNeg (y2 + 3)))]) dX10_end_97 (t_X10_costOf w u7 (w 8 1 (Int32.toNatClampNeg (y2 + 3)))) ce_8_0 rfl cy_X10_costOf tb_1162 rfl rfl (rm_ok (by decide) (by decide)) (Nat.le_of_ble_eq_true rfl) (fun q8 => ?_)
    refine gm_iload_n dX10_end_100 rfl rfl ?_
    refine gm_imul dX10_end_101 ?_
    refine gm_leti_st (fun u9 => ?_)
    refine gm_istore (lv' := [some (.ref (E.1 8 0)), none, some (.int (y2)), some (.int (y3)), some (.int (y4)), some (.int (y5)), some (.int (u7)), some (.int (u9))]) dX10_end_102 (by decide) rfl rfl ?_
    refine gm_aload_n dX10_end_104 rfl rfl ?_
    refine gm_get dX10_end_105 ce_8_0 rfl inX10 0 (by decide) tb_944 rfl rfl ?_
    refine gm_sipush (v := 570) dX10_end_108 (by decide) ?_
    refine gm_bipush (v := 8) dX10_end_111 (by decide) ?_
    refine gm_aload_n dX10_end_113 rfl rfl ?_
    refine gm_iload dX10_end_114 rfl ?_
    refine gm_iconst (v := 0) dX10_end_116 (by decide) ?_
    refine gm_callVi (As := [.int (u7), .int (0)]) dX10_end_117 (t_X10_of q8.2 u7 0) ce_8_0 rfl cy_X10_of tb_1114 rfl rfl (rm_ok (by decide) (by decide)) (Nat.le_of_ble_eq_true rfl) (fun q10 => ?_)
    refine gm_imul dX10_end_120 ?_
    refine gm_iadd dX10_end_121 ?_
    refine gm_aload_n dX10_end_122 rfl rfl ?_
    refine gm_iload dX10_end_123 rfl ?_
    refine gm_iconst (v := 2) dX10_end_125 (by decide) ?_
    refine gm_callVi (As := [.int (u7), .int (2)]) dX10_end_126 (t_X10_of q10.2 u7 2) ce_8_0 rfl cy_X10_of tb_1114 rfl rfl (rm_ok (by decide) (by decide)) (Nat.le_of_ble_eq_true rfl) (fun q11 => ?_)
    refine gm_iadd dX10_end_129 ?_
    refine gm_dup2 dX10_end_130 rfl rfl ?_
    refine gm_iald dX10_end_131 ce_8_1 ?_
    refine gm_iload dX10_end_132 rfl ?_
    refine gm_iadd dX10_end_134 ?_
    refine gm_iast dX10_end_135 ce_8_1 (fun w12 => ?_)
    refine gm_aload_n dX10_end_136 rfl rfl ?_
    refine gm_get dX10_end_137 ce_8_0 rfl inX10 0 (by decide) tb_944 rfl rfl ?_
    refine gm_bipush (v := 30) dX10_end_140 (by decide) ?_
    refine gm_bipush (v := 8) dX10_end_142 (by decide) ?_
    refine gm_iload dX10_end_144 rfl ?_
    refine gm_imul dX10_end_146 ?_
    refine gm_iadd dX10_end_147 ?_
    refine gm_bipush (v := 7) dX10_end_148 (by decide) ?_
    refine gm_iadd dX10_end_150 ?_
    refine gm_dup2 dX10_end_151 rfl rfl ?_
    refine gm_iald dX10_end_152 ce_8_1 ?_
    refine gm_aload_n dX10_end_153 rfl rfl ?_
    refine gm_iload dX10_end_154 rfl ?_
    refine gm_callVi (As := [.int (u7)]) dX10_end_156 (t_X10_serves w12 u7) ce_8_0 rfl cy_X10_serves tb_1138 rfl rfl (rm_ok (by decide) (by decide)) (Nat.le_of_ble_eq_true rfl) (fun q13 => ?_)
    refine gm_if_eq (tgt := 166) dX10_end_159 (by decide) ?_ ?_
    · refine gm_iconst (v := 1) dX10_end_166 (by decide) ?_
      refine gm_isub dX10_end_167 ?_
      refine gm_iast dX10_end_168 ce_8_1 (fun w14 => ?_)
      refine gm_iload dX10_end_169 rfl ?_
      refine gm_iload dX10_end_171 rfl ?_
      refine gm_iadd dX10_end_173 ?_
      refine gm_leti_st (fun u15 => ?_)
      refine gm_istore (lv' := [some (.ref (E.1 8 0)), none, some (.int (y2)), some (.int (y3)), some (.int (u15)), some (.int (y5)), some (.int (u7)), some (.int (u9))]) dX10_end_174 (by decide) rfl rfl ?_
      refine gm_iinc (v := 1) (lv' := [some (.ref (E.1 8 0)), none, some (.int (y2)), some (.int (y3)), some (.int (u15)), some (.int (y5 + 1)), some (.int (u7)), some (.int (u9))]) dX10_end_176 rfl (by decide) (by decide) rfl rfl ?_
      refine gm_goto (tgt := 60) dX10_end_179 (by decide) ?_
      exact gm_weak (lsub_s (lsub_n (lsub_s (lsub_s (lsub_s (lsub_s (lsub_n (lsub_n lsub_0)))))))) (hrc60 w14 y2 y3 u15 (y5 + 1))
    · refine gm_iconst (v := 0) dX10_end_162 (by decide) ?_
      refine gm_goto (tgt := 167) dX10_end_163 (by decide) ?_
      refine gm_isub dX10_end_167 ?_
      refine gm_iast dX10_end_168 ce_8_1 (fun w16 => ?_)
      refine gm_iload dX10_end_169 rfl ?_
      refine gm_iload dX10_end_171 rfl ?_
      refine gm_iadd dX10_end_173 ?_
      refine gm_leti_st (fun u17 => ?_)
      refine gm_istore (lv' := [some (.ref (E.1 8 0)), none, some (.int (y2)), some (.int (y3)), some (.int (u17)), some (.int (y5)), some (.int (u7)), some (.int (u9))]) dX10_end_174 (by decide) rfl rfl ?_
      refine gm_iinc (v := 1) (lv' := [some (.ref (E.1 8 0)), none, some (.int (y2)), some (.int (y3)), some (.int (u17)), some (.int (y5 + 1)), some (.int (u7)), some (.int (u9))]) dX10_end_176 rfl (by decide) (by decide) rfl rfl ?_
      refine gm_goto (tgt := 60) dX10_end_179 (by decide) ?_
      exact gm_weak (lsub_s (lsub_n (lsub_s (lsub_s (lsub_s (lsub_s (lsub_n (lsub_n lsub_0)))))))) (hrc60 w16 y2 y3 u17 (y5 + 1))
noncomputable def h_X10_end_60 : Nat → (Wd → Int32 → Int32 → Int32 → Int32 → Option (Int32 × Wd))
  | 0 => fun _ _ _ _ _ => none
  | fu + 1 => b_X10_end_60    (h_X10_end_60    fu)
set_option maxRecDepth 100000 in
set_option maxHeartbeats 4000000 in
theorem k_X10_end_60 {l : Launch} {E : En} : ∀ (fu : Nat) (w : Wd) (y2 : Int32) (y3 : Int32) (y4 : Int32) (y5 : Int32), Gm l E cX10_end 8 RX10 (some .int) (rmk (4)) eI (h_X10_end_60    fu w y2 y3 y4 y5) w 60 [some (.ref (E.1 8 0)), none, some (.int (y2)), some (.int (y3)), some (.int (y4)), some (.int (y5)), none, none] []
  | 0, _, _, _, _, _ => gm_none
  | fu + 1, w, y2, y3, y4, y5 => kb_X10_end_60     (h_X10_end_60    fu)  (fun w y2 y3 y4 y5 => k_X10_end_60      fu w y2 y3 y4 y5) w y2 y3 y4 y5
noncomputable def f_X10_end (w : Wd) (x1 : Int32) : Option (Int32 × Wd) :=
  (f_X10_isCall w x1).bind fun q1 =>
  if q1.1 = 0 then
    some ((-1), q1.2)
  else
    (f_X10_keeps 1 q1.2).bind fun q2 =>
    leti (420 + (14 * x1)) fun u3 =>
    if ib 4 640 = true then
    if ib (u3 + 2) 640 = true then
    leti ((q2.2 8 1 (Int32.toNatClampNeg 4)) - (q2.2 8 1 (Int32.toNatClampNeg (u3 + 2)))) fun u4 =>
    if 1 ≤ u4 then
      h_X10_end_60 FU q2.2 u3 u4 0 0
    else
      h_X10_end_60 FU q2.2 u3 1 0 0
    else none
    else none
set_option maxRecDepth 100000 in
set_option maxHeartbeats 4000000 in
theorem t_X10_end {l : Launch} {E : En} (w : Wd) (x1 : Int32) : ∀ q, f_X10_end   w x1 = some q → Mt l E yX10_end cX10_end 8 (some .int) (rmk 4) [.ref (E.1 8 0), .int (x1)] w (eI q.1) q.2 := by
  refine Mt.of [some (.ref (E.1 8 0)), some (.int (x1)), none, none, none, none, none, none] (plainFor_of_name pn_X10) rfl (Nat.le_of_ble_eq_true rfl) rfl ?_
  unfold f_X10_end
  refine gm_aload_n dX10_end_0 rfl rfl ?_
  refine gm_iload_n dX10_end_1 rfl rfl ?_
  refine gm_callVi (As := [.int (x1)]) dX10_end_2 (t_X10_isCall w x1) ce_8_0 rfl cy_X10_isCall tb_1158 rfl rfl (rm_ok (by decide) (by decide)) (Nat.le_of_ble_eq_true rfl) (fun q1 => ?_)
  refine gm_if_ne (tgt := 10) dX10_end_5 (by decide) ?_ ?_
  · refine gm_aload_n dX10_end_10 rfl rfl ?_
    refine gm_aload_n dX10_end_11 rfl rfl ?_
    refine gm_get dX10_end_12 ce_8_0 rfl inX10 0 (by decide) tb_944 rfl rfl ?_
    refine gm_callVv (As := [.ref (E.1 8 1)]) dX10_end_15 (t_X10_keeps 1 ce_8_1 q1.2) ce_8_0 rfl cy_X10_keeps tb_1021 rfl rfl (rm_ok (by decide) (by decide)) (Nat.le_of_ble_eq_true rfl) (fun q2 => ?_)
    refine gm_sipush (v := 420) dX10_end_18 (by decide) ?_
    refine gm_bipush (v := 14) dX10_end_21 (by decide) ?_
    refine gm_iload_n dX10_end_23 rfl rfl ?_
    refine gm_imul dX10_end_24 ?_
    refine gm_iadd dX10_end_25 ?_
    refine gm_leti_st (fun u3 => ?_)
    refine gm_istore_n (lv' := [some (.ref (E.1 8 0)), some (.int (x1)), some (.int (u3)), none, none, none, none, none]) dX10_end_26 rfl (by decide) rfl rfl ?_
    refine gm_aload_n dX10_end_27 rfl rfl ?_
    refine gm_get dX10_end_28 ce_8_0 rfl inX10 0 (by decide) tb_944 rfl rfl ?_
    refine gm_iconst (v := 4) dX10_end_31 (by decide) ?_
    refine gm_iald dX10_end_32 ce_8_1 ?_
    refine gm_aload_n dX10_end_33 rfl rfl ?_
    refine gm_get dX10_end_34 ce_8_0 rfl inX10 0 (by decide) tb_944 rfl rfl ?_
    refine gm_iload_n dX10_end_37 rfl rfl ?_
    refine gm_iconst (v := 2) dX10_end_38 (by decide) ?_
    refine gm_iadd dX10_end_39 ?_
    refine gm_iald dX10_end_40 ce_8_1 ?_
    refine gm_isub dX10_end_41 ?_
    refine gm_leti_st (fun u4 => ?_)
    refine gm_istore_n (lv' := [some (.ref (E.1 8 0)), some (.int (x1)), some (.int (u3)), some (.int (u4)), none, none, none, none]) dX10_end_42 rfl (by decide) rfl rfl ?_
    refine gm_iload_n dX10_end_43 rfl rfl ?_
    refine gm_iconst (v := 1) dX10_end_44 (by decide) ?_
    refine gm_icmp_ge (tgt := 52) dX10_end_45 (by decide) ?_ ?_
    · refine gm_iload_n dX10_end_52 rfl rfl ?_
      refine gm_istore_n (lv' := [some (.ref (E.1 8 0)), some (.int (x1)), some (.int (u3)), some (.int (u4)), none, none, none, none]) dX10_end_53 rfl (by decide) rfl rfl ?_
      refine gm_iconst (v := 0) dX10_end_54 (by decide) ?_
      refine gm_istore (lv' := [some (.ref (E.1 8 0)), some (.int (x1)), some (.int (u3)), some (.int (u4)), some (.int (0)), none, none, none]) dX10_end_55 (by decide) rfl rfl ?_
      refine gm_iconst (v := 0) dX10_end_57 (by decide) ?_
      refine gm_istore (lv' := [some (.ref (E.1 8 0)), some (.int (x1)), some (.int (u3)), some (.int (u4)), some (.int (0)), some (.int (0)), none, none]) dX10_end_58 (by decide) rfl rfl ?_
      exact gm_weak (lsub_s (lsub_n (lsub_s (lsub_s (lsub_s (lsub_s (lsub_n (lsub_n lsub_0)))))))) (k_X10_end_60 FU q2.2 u3 u4 0 0)
    · refine gm_iconst (v := 1) dX10_end_48 (by decide) ?_
      refine gm_goto (tgt := 53) dX10_end_49 (by decide) ?_
      refine gm_istore_n (lv' := [some (.ref (E.1 8 0)), some (.int (x1)), some (.int (u3)), some (.int (1)), none, none, none, none]) dX10_end_53 rfl (by decide) rfl rfl ?_
      refine gm_iconst (v := 0) dX10_end_54 (by decide) ?_
      refine gm_istore (lv' := [some (.ref (E.1 8 0)), some (.int (x1)), some (.int (u3)), some (.int (1)), some (.int (0)), none, none, none]) dX10_end_55 (by decide) rfl rfl ?_
      refine gm_iconst (v := 0) dX10_end_57 (by decide) ?_
      refine gm_istore (lv' := [some (.ref (E.1 8 0)), some (.int (x1)), some (.int (u3)), some (.int (1)), some (.int (0)), some (.int (0)), none, none]) dX10_end_58 (by decide) rfl rfl ?_
      exact gm_weak (lsub_s (lsub_n (lsub_s (lsub_s (lsub_s (lsub_s (lsub_n (lsub_n lsub_0)))))))) (k_X10_end_60 FU q2.2 u3 1 0 0)
  · refine gm_iconst (v := (-1)) dX10_end_8 (by decide) ?_
    exact gm_iret dX10_end_9

noncomputable def b_X10_fingerprint_138 (rc125 : Wd → Int64 → Int32 → Option (Int64 × Wd)) (rc138 : Wd → Int64 → Int32 → Int32 → Option (Int64 × Wd)) (w : Wd) (y1 : Int64) (y3 : Int32) (y4 : Int32) : Option (Int64 × Wd) :=
  if ib 0 640 = true then
  if (w 8 1 (Int32.toNatClampNeg 0)) ≤ y4 then
    rc125 w y1 (y3 + 1)
  else
    if ib ((570 + (8 * y3)) + y4) 640 = true then
    letl ((31 * y1) + (Int32.toInt64 (w 8 1 (Int32.toNatClampNeg ((570 + (8 * y3)) + y4))))) fun u3 =>
    rc138 w u3 y3 (y4 + 1)
    else none
  else none
set_option maxRecDepth 100000 in
set_option maxHeartbeats 4000000 in
theorem kb_X10_fingerprint_138 {l : Launch} {E : En} (rc125 : Wd → Int64 → Int32 → Option (Int64 × Wd)) (rc138 : Wd → Int64 → Int32 → Int32 → Option (Int64 × Wd)) (hrc125 : ∀ (w : Wd) (y1 : Int64) (y3 : Int32), Gm l E cX10_fingerprint 5 RX10 (some .long) (rmk (2)) eL (rc125 w y1 y3) w 125 [some (.ref (E.1 8 0)), some (.long (y1)), none, some (.int (y3)), none] []) (hrc138 : ∀ (w : Wd) (y1 : Int64) (y3 : Int32) (y4 : Int32), Gm l E cX10_fingerprint 5 RX10 (some .long) (rmk (2)) eL (rc138 w y1 y3 y4) w 138 [some (.ref (E.1 8 0)), some (.long (y1)), none, some (.int (y3)), some (.int (y4))] []) (w : Wd) (y1 : Int64) (y3 : Int32) (y4 : Int32) : Gm l E cX10_fingerprint 5 RX10 (some .long) (rmk (2)) eL (b_X10_fingerprint_138   rc125 rc138 w y1 y3 y4) w 138 [some (.ref (E.1 8 0)), some (.long (y1)), none, some (.int (y3)), some (.int (y4))] [] := by
  unfold b_X10_fingerprint_138
  refine gm_iload dX10_fingerprint_138 rfl ?_
  refine gm_aload_n dX10_fingerprint_140 rfl rfl ?_
  refine gm_get dX10_fingerprint_141 ce_8_0 rfl inX10 0 (by decide) tb_944 rfl rfl ?_
  refine gm_iconst (v := 0) dX10_fingerprint_144 (by decide) ?_
  refine gm_iald dX10_fingerprint_145 ce_8_1 ?_
  refine gm_icmp_ge (tgt := 179) dX10_fingerprint_146 (by decide) ?_ ?_
  · refine gm_iinc (v := 1) (lv' := [some (.ref (E.1 8 0)), some (.long (y1)), none, some (.int (y3 + 1)), some (.int (y4))]) dX10_fingerprint_179 rfl (by decide) (by decide) rfl rfl ?_
    refine gm_goto (tgt := 125) dX10_fingerprint_182 (by decide) ?_
    exact gm_weak (lsub_s (lsub_s (lsub_n (lsub_s (lsub_n lsub_0))))) (hrc125 w y1 (y3 + 1))
  · refine gm_ldc2 (v := 31) dX10_fingerprint_149 tb_1267 ?_
    refine gm_lload_n dX10_fingerprint_152 rfl rfl ?_
    refine gm_lmul dX10_fingerprint_153 ?_
    refine gm_aload_n dX10_fingerprint_154 rfl rfl ?_
    refine gm_get dX10_fingerprint_155 ce_8_0 rfl inX10 0 (by decide) tb_944 rfl rfl ?_
    refine gm_sipush (v := 570) dX10_fingerprint_158 (by decide) ?_
    refine gm_bipush (v := 8) dX10_fingerprint_161 (by decide) ?_
    refine gm_iload_n dX10_fingerprint_163 rfl rfl ?_
    refine gm_imul dX10_fingerprint_164 ?_
    refine gm_iadd dX10_fingerprint_165 ?_
    refine gm_iload dX10_fingerprint_166 rfl ?_
    refine gm_iadd dX10_fingerprint_168 ?_
    refine gm_iald dX10_fingerprint_169 ce_8_1 ?_
    refine gm_i2l dX10_fingerprint_170 ?_
    refine gm_ladd dX10_fingerprint_171 ?_
    refine gm_letl_st (fun u3 => ?_)
    refine gm_lstore_n (lv' := [some (.ref (E.1 8 0)), some (.long (u3)), none, some (.int (y3)), some (.int (y4))]) dX10_fingerprint_172 rfl (by decide) rfl rfl ?_
    refine gm_iinc (v := 1) (lv' := [some (.ref (E.1 8 0)), some (.long (u3)), none, some (.int (y3)), some (.int (y4 + 1))]) dX10_fingerprint_173 rfl (by decide) (by decide) rfl rfl ?_
    refine gm_goto (tgt := 138) dX10_fingerprint_176 (by decide) ?_
    exact gm_weak (lsub_s (lsub_s (lsub_n (lsub_s (lsub_s lsub_0))))) (hrc138 w u3 y3 (y4 + 1))
noncomputable def h_X10_fingerprint_138 (rc125 : Wd → Int64 → Int32 → Option (Int64 × Wd)) : Nat → (Wd → Int64 → Int32 → Int32 → Option (Int64 × Wd))
  | 0 => fun _ _ _ _ => none
  | fu + 1 => b_X10_fingerprint_138   rc125 (h_X10_fingerprint_138   rc125 fu)
set_option maxRecDepth 100000 in
set_option maxHeartbeats 4000000 in
theorem k_X10_fingerprint_138 {l : Launch} {E : En} (rc125 : Wd → Int64 → Int32 → Option (Int64 × Wd)) (hrc125 : ∀ (w : Wd) (y1 : Int64) (y3 : Int32), Gm l E cX10_fingerprint 5 RX10 (some .long) (rmk (2)) eL (rc125 w y1 y3) w 125 [some (.ref (E.1 8 0)), some (.long (y1)), none, some (.int (y3)), none] []) : ∀ (fu : Nat) (w : Wd) (y1 : Int64) (y3 : Int32) (y4 : Int32), Gm l E cX10_fingerprint 5 RX10 (some .long) (rmk (2)) eL (h_X10_fingerprint_138   rc125 fu w y1 y3 y4) w 138 [some (.ref (E.1 8 0)), some (.long (y1)), none, some (.int (y3)), some (.int (y4))] []
  | 0, _, _, _, _ => gm_none
  | fu + 1, w, y1, y3, y4 => kb_X10_fingerprint_138    rc125 (h_X10_fingerprint_138   rc125 fu) hrc125 (fun w y1 y3 y4 => k_X10_fingerprint_138    rc125 hrc125 fu w y1 y3 y4) w y1 y3 y4
noncomputable def b_X10_fingerprint_125 (rc125 : Wd → Int64 → Int32 → Option (Int64 × Wd)) (w : Wd) (y1 : Int64) (y3 : Int32) : Option (Int64 × Wd) :=
  if ib 0 640 = true then
  if (w 8 1 (Int32.toNatClampNeg 0)) ≤ y3 then
    some (y1, w)
  else
    h_X10_fingerprint_138 rc125 FU w y1 y3 0
  else none
set_option maxRecDepth 100000 in
set_option maxHeartbeats 4000000 in
theorem kb_X10_fingerprint_125 {l : Launch} {E : En} (rc125 : Wd → Int64 → Int32 → Option (Int64 × Wd)) (hrc125 : ∀ (w : Wd) (y1 : Int64) (y3 : Int32), Gm l E cX10_fingerprint 5 RX10 (some .long) (rmk (2)) eL (rc125 w y1 y3) w 125 [some (.ref (E.1 8 0)), some (.long (y1)), none, some (.int (y3)), none] []) (w : Wd) (y1 : Int64) (y3 : Int32) : Gm l E cX10_fingerprint 5 RX10 (some .long) (rmk (2)) eL (b_X10_fingerprint_125   rc125 w y1 y3) w 125 [some (.ref (E.1 8 0)), some (.long (y1)), none, some (.int (y3)), none] [] := by
  unfold b_X10_fingerprint_125
  refine gm_iload_n dX10_fingerprint_125 rfl rfl ?_
  refine gm_aload_n dX10_fingerprint_126 rfl rfl ?_
  refine gm_get dX10_fingerprint_127 ce_8_0 rfl inX10 0 (by decide) tb_944 rfl rfl ?_
  refine gm_iconst (v := 0) dX10_fingerprint_130 (by decide) ?_
  refine gm_iald dX10_fingerprint_131 ce_8_1 ?_
  refine gm_icmp_ge (tgt := 185) dX10_fingerprint_132 (by decide) ?_ ?_
  · refine gm_lload_n dX10_fingerprint_185 rfl rfl ?_
    exact gm_lret dX10_fingerprint_186
  · refine gm_iconst (v := 0) dX10_fingerprint_135 (by decide) ?_
    refine gm_istore (lv' := [some (.ref (E.1 8 0)), some (.long (y1)), none, some (.int (y3)), some (.int (0))]) dX10_fingerprint_136 (by decide) rfl rfl ?_
    exact gm_weak (lsub_s (lsub_s (lsub_n (lsub_s (lsub_s lsub_0))))) (k_X10_fingerprint_138 rc125 hrc125 FU w y1 y3 0)
noncomputable def h_X10_fingerprint_125 : Nat → (Wd → Int64 → Int32 → Option (Int64 × Wd))
  | 0 => fun _ _ _ => none
  | fu + 1 => b_X10_fingerprint_125    (h_X10_fingerprint_125    fu)
set_option maxRecDepth 100000 in
set_option maxHeartbeats 4000000 in
theorem k_X10_fingerprint_125 {l : Launch} {E : En} : ∀ (fu : Nat) (w : Wd) (y1 : Int64) (y3 : Int32), Gm l E cX10_fingerprint 5 RX10 (some .long) (rmk (2)) eL (h_X10_fingerprint_125    fu w y1 y3) w 125 [some (.ref (E.1 8 0)), some (.long (y1)), none, some (.int (y3)), none] []
  | 0, _, _, _ => gm_none
  | fu + 1, w, y1, y3 => kb_X10_fingerprint_125     (h_X10_fingerprint_125    fu)  (fun w y1 y3 => k_X10_fingerprint_125      fu w y1 y3) w y1 y3
noncomputable def b_X10_fingerprint_39 (rc26 : Wd → Int64 → Int32 → Option (Int64 × Wd)) (rc39 : Wd → Int64 → Int32 → Int32 → Option (Int64 × Wd)) (w : Wd) (y1 : Int64) (y3 : Int32) (y4 : Int32) : Option (Int64 × Wd) :=
  if 8 ≤ y4 then
    rc26 w y1 (y3 + 1)
  else
    (f_X10_of w y3 y4).bind fun q4 =>
    letl ((31 * y1) + (Int32.toInt64 q4.1)) fun u5 =>
    rc39 q4.2 u5 y3 (y4 + 1)
set_option maxRecDepth 100000 in
set_option maxHeartbeats 4000000 in
theorem kb_X10_fingerprint_39 {l : Launch} {E : En} (rc26 : Wd → Int64 → Int32 → Option (Int64 × Wd)) (rc39 : Wd → Int64 → Int32 → Int32 → Option (Int64 × Wd)) (hrc26 : ∀ (w : Wd) (y1 : Int64) (y3 : Int32), Gm l E cX10_fingerprint 5 RX10 (some .long) (rmk (2)) eL (rc26 w y1 y3) w 26 [some (.ref (E.1 8 0)), some (.long (y1)), none, some (.int (y3)), none] []) (hrc39 : ∀ (w : Wd) (y1 : Int64) (y3 : Int32) (y4 : Int32), Gm l E cX10_fingerprint 5 RX10 (some .long) (rmk (2)) eL (rc39 w y1 y3 y4) w 39 [some (.ref (E.1 8 0)), some (.long (y1)), none, some (.int (y3)), some (.int (y4))] []) (w : Wd) (y1 : Int64) (y3 : Int32) (y4 : Int32) : Gm l E cX10_fingerprint 5 RX10 (some .long) (rmk (2)) eL (b_X10_fingerprint_39   rc26 rc39 w y1 y3 y4) w 39 [some (.ref (E.1 8 0)), some (.long (y1)), none, some (.int (y3)), some (.int (y4))] [] := by
  unfold b_X10_fingerprint_39
  refine gm_iload dX10_fingerprint_39 rfl ?_
  refine gm_bipush (v := 8) dX10_fingerprint_41 (by decide) ?_
  refine gm_icmp_ge (tgt := 67) dX10_fingerprint_43 (by decide) ?_ ?_
  · refine gm_iinc (v := 1) (lv' := [some (.ref (E.1 8 0)), some (.long (y1)), none, some (.int (y3 + 1)), some (.int (y4))]) dX10_fingerprint_67 rfl (by decide) (by decide) rfl rfl ?_
    refine gm_goto (tgt := 26) dX10_fingerprint_70 (by decide) ?_
    exact gm_weak (lsub_s (lsub_s (lsub_n (lsub_s (lsub_n lsub_0))))) (hrc26 w y1 (y3 + 1))
  · refine gm_ldc2 (v := 31) dX10_fingerprint_46 tb_1267 ?_
    refine gm_lload_n dX10_fingerprint_49 rfl rfl ?_
    refine gm_lmul dX10_fingerprint_50 ?_
    refine gm_aload_n dX10_fingerprint_51 rfl rfl ?_
    refine gm_iload_n dX10_fingerprint_52 rfl rfl ?_
    refine gm_iload dX10_fingerprint_53 rfl ?_
    refine gm_callVi (As := [.int (y3), .int (y4)]) dX10_fingerprint_55 (t_X10_of w y3 y4) ce_8_0 rfl cy_X10_of tb_1114 rfl rfl (rm_ok (by decide) (by decide)) (Nat.le_of_ble_eq_true rfl) (fun q4 => ?_)
    refine gm_i2l dX10_fingerprint_58 ?_
    refine gm_ladd dX10_fingerprint_59 ?_
    refine gm_letl_st (fun u5 => ?_)
    refine gm_lstore_n (lv' := [some (.ref (E.1 8 0)), some (.long (u5)), none, some (.int (y3)), some (.int (y4))]) dX10_fingerprint_60 rfl (by decide) rfl rfl ?_
    refine gm_iinc (v := 1) (lv' := [some (.ref (E.1 8 0)), some (.long (u5)), none, some (.int (y3)), some (.int (y4 + 1))]) dX10_fingerprint_61 rfl (by decide) (by decide) rfl rfl ?_
    refine gm_goto (tgt := 39) dX10_fingerprint_64 (by decide) ?_
    exact gm_weak (lsub_s (lsub_s (lsub_n (lsub_s (lsub_s lsub_0))))) (hrc39 q4.2 u5 y3 (y4 + 1))
noncomputable def h_X10_fingerprint_39 (rc26 : Wd → Int64 → Int32 → Option (Int64 × Wd)) : Nat → (Wd → Int64 → Int32 → Int32 → Option (Int64 × Wd))
  | 0 => fun _ _ _ _ => none
  | fu + 1 => b_X10_fingerprint_39   rc26 (h_X10_fingerprint_39   rc26 fu)
set_option maxRecDepth 100000 in
set_option maxHeartbeats 4000000 in
theorem k_X10_fingerprint_39 {l : Launch} {E : En} (rc26 : Wd → Int64 → Int32 → Option (Int64 × Wd)) (hrc26 : ∀ (w : Wd) (y1 : Int64) (y3 : Int32), Gm l E cX10_fingerprint 5 RX10 (some .long) (rmk (2)) eL (rc26 w y1 y3) w 26 [some (.ref (E.1 8 0)), some (.long (y1)), none, some (.int (y3)), none] []) : ∀ (fu : Nat) (w : Wd) (y1 : Int64) (y3 : Int32) (y4 : Int32), Gm l E cX10_fingerprint 5 RX10 (some .long) (rmk (2)) eL (h_X10_fingerprint_39   rc26 fu w y1 y3 y4) w 39 [some (.ref (E.1 8 0)), some (.long (y1)), none, some (.int (y3)), some (.int (y4))] []
  | 0, _, _, _, _ => gm_none
  | fu + 1, w, y1, y3, y4 => kb_X10_fingerprint_39    rc26 (h_X10_fingerprint_39   rc26 fu) hrc26 (fun w y1 y3 y4 => k_X10_fingerprint_39    rc26 hrc26 fu w y1 y3 y4) w y1 y3 y4
noncomputable def b_X10_fingerprint_26 (rc26 : Wd → Int64 → Int32 → Option (Int64 × Wd)) (w : Wd) (y1 : Int64) (y3 : Int32) : Option (Int64 × Wd) :=
  if ib 1 640 = true then
  if (w 8 1 (Int32.toNatClampNeg 1)) ≤ y3 then
    if ib 2 640 = true then
    if ib 3 640 = true then
    if ib 4 640 = true then
    if ib 5 640 = true then
    letl ((31 * ((31 * ((31 * ((31 * y1) + (Int32.toInt64 (w 8 1 (Int32.toNatClampNeg 2))))) + (Int32.toInt64 (w 8 1 (Int32.toNatClampNeg 3))))) + (Int32.toInt64 (w 8 1 (Int32.toNatClampNeg 4))))) + (Int32.toInt64 (w 8 1 (Int32.toNatClampNeg 5)))) fun u2 =>
    h_X10_fingerprint_125 FU w u2 0
    else none
    else none
    else none
    else none
  else
    h_X10_fingerprint_39 rc26 FU w y1 y3 0
  else none
set_option maxRecDepth 100000 in
set_option maxHeartbeats 4000000 in
theorem kb_X10_fingerprint_26 {l : Launch} {E : En} (rc26 : Wd → Int64 → Int32 → Option (Int64 × Wd)) (hrc26 : ∀ (w : Wd) (y1 : Int64) (y3 : Int32), Gm l E cX10_fingerprint 5 RX10 (some .long) (rmk (2)) eL (rc26 w y1 y3) w 26 [some (.ref (E.1 8 0)), some (.long (y1)), none, some (.int (y3)), none] []) (w : Wd) (y1 : Int64) (y3 : Int32) : Gm l E cX10_fingerprint 5 RX10 (some .long) (rmk (2)) eL (b_X10_fingerprint_26   rc26 w y1 y3) w 26 [some (.ref (E.1 8 0)), some (.long (y1)), none, some (.int (y3)), none] [] := by
  unfold b_X10_fingerprint_26
  refine gm_iload_n dX10_fingerprint_26 rfl rfl ?_
  refine gm_aload_n dX10_fingerprint_27 rfl rfl ?_
  refine gm_get dX10_fingerprint_28 ce_8_0 rfl inX10 0 (by decide) tb_944 rfl rfl ?_
  refine gm_iconst (v := 1) dX10_fingerprint_31 (by decide) ?_
  refine gm_iald dX10_fingerprint_32 ce_8_1 ?_
  refine gm_icmp_ge (tgt := 73) dX10_fingerprint_33 (by decide) ?_ ?_
  · refine gm_ldc2 (v := 31) dX10_fingerprint_73 tb_1267 ?_
    refine gm_ldc2 (v := 31) dX10_fingerprint_76 tb_1267 ?_
    refine gm_ldc2 (v := 31) dX10_fingerprint_79 tb_1267 ?_
    refine gm_ldc2 (v := 31) dX10_fingerprint_82 tb_1267 ?_
    refine gm_lload_n dX10_fingerprint_85 rfl rfl ?_
    refine gm_lmul dX10_fingerprint_86 ?_
    refine gm_aload_n dX10_fingerprint_87 rfl rfl ?_
    refine gm_get dX10_fingerprint_88 ce_8_0 rfl inX10 0 (by decide) tb_944 rfl rfl ?_
    refine gm_iconst (v := 2) dX10_fingerprint_91 (by decide) ?_
    refine gm_iald dX10_fingerprint_92 ce_8_1 ?_
    refine gm_i2l dX10_fingerprint_93 ?_
    refine gm_ladd dX10_fingerprint_94 ?_
    refine gm_lmul dX10_fingerprint_95 ?_
    refine gm_aload_n dX10_fingerprint_96 rfl rfl ?_
    refine gm_get dX10_fingerprint_97 ce_8_0 rfl inX10 0 (by decide) tb_944 rfl rfl ?_
    refine gm_iconst (v := 3) dX10_fingerprint_100 (by decide) ?_
    refine gm_iald dX10_fingerprint_101 ce_8_1 ?_
    refine gm_i2l dX10_fingerprint_102 ?_
    refine gm_ladd dX10_fingerprint_103 ?_
    refine gm_lmul dX10_fingerprint_104 ?_
    refine gm_aload_n dX10_fingerprint_105 rfl rfl ?_
    refine gm_get dX10_fingerprint_106 ce_8_0 rfl inX10 0 (by decide) tb_944 rfl rfl ?_
    refine gm_iconst (v := 4) dX10_fingerprint_109 (by decide) ?_
    refine gm_iald dX10_fingerprint_110 ce_8_1 ?_
    refine gm_i2l dX10_fingerprint_111 ?_
    refine gm_ladd dX10_fingerprint_112 ?_
    refine gm_lmul dX10_fingerprint_113 ?_
    refine gm_aload_n dX10_fingerprint_114 rfl rfl ?_
    refine gm_get dX10_fingerprint_115 ce_8_0 rfl inX10 0 (by decide) tb_944 rfl rfl ?_
    refine gm_iconst (v := 5) dX10_fingerprint_118 (by decide) ?_
    refine gm_iald dX10_fingerprint_119 ce_8_1 ?_
    refine gm_i2l dX10_fingerprint_120 ?_
    refine gm_ladd dX10_fingerprint_121 ?_
    refine gm_letl_st (fun u2 => ?_)
    refine gm_lstore_n (lv' := [some (.ref (E.1 8 0)), some (.long (u2)), none, some (.int (y3)), none]) dX10_fingerprint_122 rfl (by decide) rfl rfl ?_
    refine gm_iconst (v := 0) dX10_fingerprint_123 (by decide) ?_
    refine gm_istore_n (lv' := [some (.ref (E.1 8 0)), some (.long (u2)), none, some (.int (0)), none]) dX10_fingerprint_124 rfl (by decide) rfl rfl ?_
    exact gm_weak (lsub_s (lsub_s (lsub_n (lsub_s (lsub_n lsub_0))))) (k_X10_fingerprint_125 FU w u2 0)
  · refine gm_iconst (v := 0) dX10_fingerprint_36 (by decide) ?_
    refine gm_istore (lv' := [some (.ref (E.1 8 0)), some (.long (y1)), none, some (.int (y3)), some (.int (0))]) dX10_fingerprint_37 (by decide) rfl rfl ?_
    exact gm_weak (lsub_s (lsub_s (lsub_n (lsub_s (lsub_s lsub_0))))) (k_X10_fingerprint_39 rc26 hrc26 FU w y1 y3 0)
noncomputable def h_X10_fingerprint_26 : Nat → (Wd → Int64 → Int32 → Option (Int64 × Wd))
  | 0 => fun _ _ _ => none
  | fu + 1 => b_X10_fingerprint_26    (h_X10_fingerprint_26    fu)
set_option maxRecDepth 100000 in
set_option maxHeartbeats 4000000 in
theorem k_X10_fingerprint_26 {l : Launch} {E : En} : ∀ (fu : Nat) (w : Wd) (y1 : Int64) (y3 : Int32), Gm l E cX10_fingerprint 5 RX10 (some .long) (rmk (2)) eL (h_X10_fingerprint_26    fu w y1 y3) w 26 [some (.ref (E.1 8 0)), some (.long (y1)), none, some (.int (y3)), none] []
  | 0, _, _, _ => gm_none
  | fu + 1, w, y1, y3 => kb_X10_fingerprint_26     (h_X10_fingerprint_26    fu)  (fun w y1 y3 => k_X10_fingerprint_26      fu w y1 y3) w y1 y3
noncomputable def f_X10_fingerprint (w : Wd) : Option (Int64 × Wd) :=
  if ib 0 640 = true then
  if ib 1 640 = true then
  letl ((31 * (2449 + (Int32.toInt64 (w 8 1 (Int32.toNatClampNeg 0))))) + (Int32.toInt64 (w 8 1 (Int32.toNatClampNeg 1)))) fun u1 =>
  h_X10_fingerprint_26 FU w u1 0
  else none
  else none
set_option maxRecDepth 100000 in
set_option maxHeartbeats 4000000 in
theorem t_X10_fingerprint {l : Launch} {E : En} (w : Wd) : ∀ q, f_X10_fingerprint   w  = some q → Mt l E yX10_fingerprint cX10_fingerprint 5 (some .long) (rmk 2) [.ref (E.1 8 0)] w (eL q.1) q.2 := by
  refine Mt.of [some (.ref (E.1 8 0)), none, none, none, none] (plainFor_of_name pn_X10) rfl (Nat.le_of_ble_eq_true rfl) rfl ?_
  unfold f_X10_fingerprint
  refine gm_ldc2 (v := 31) dX10_fingerprint_0 tb_1267 ?_
  refine gm_ldc2 (v := 2449) dX10_fingerprint_3 tb_1268 ?_
  refine gm_aload_n dX10_fingerprint_6 rfl rfl ?_
  refine gm_get dX10_fingerprint_7 ce_8_0 rfl inX10 0 (by decide) tb_944 rfl rfl ?_
  refine gm_iconst (v := 0) dX10_fingerprint_10 (by decide) ?_
  refine gm_iald dX10_fingerprint_11 ce_8_1 ?_
  refine gm_i2l dX10_fingerprint_12 ?_
  refine gm_ladd dX10_fingerprint_13 ?_
  refine gm_lmul dX10_fingerprint_14 ?_
  refine gm_aload_n dX10_fingerprint_15 rfl rfl ?_
  refine gm_get dX10_fingerprint_16 ce_8_0 rfl inX10 0 (by decide) tb_944 rfl rfl ?_
  refine gm_iconst (v := 1) dX10_fingerprint_19 (by decide) ?_
  refine gm_iald dX10_fingerprint_20 ce_8_1 ?_
  refine gm_i2l dX10_fingerprint_21 ?_
  refine gm_ladd dX10_fingerprint_22 ?_
  refine gm_letl_st (fun u1 => ?_)
  refine gm_lstore_n (lv' := [some (.ref (E.1 8 0)), some (.long (u1)), none, none, none]) dX10_fingerprint_23 rfl (by decide) rfl rfl ?_
  refine gm_iconst (v := 0) dX10_fingerprint_24 (by decide) ?_
  refine gm_istore_n (lv' := [some (.ref (E.1 8 0)), some (.long (u1)), none, some (.int (0)), none]) dX10_fingerprint_25 rfl (by decide) rfl rfl ?_
  exact gm_weak (lsub_s (lsub_s (lsub_n (lsub_s (lsub_n lsub_0))))) (k_X10_fingerprint_26 FU w u1 0)
