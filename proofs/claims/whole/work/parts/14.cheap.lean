noncomputable def f_X1_costBetween (w : Wd) (x1 : Int32) (x2 : Int32) (x3 : Int32) : Option (Int32 × Wd) :=
  leti ((x1 * 8) + x2) fun u1 =>
  if u1 < 0 then
    some (1000000, w)
  else
    if u1 < 64 then
      if x3 = (-9) then
        if ib u1 64 = true then
        some (w 7 17 (Int32.toNatClampNeg u1), w)
        else none
      else
        if ib u1 64 = true then
        some (w 7 18 (Int32.toNatClampNeg u1), w)
        else none
    else
      some (1000000, w)
set_option maxRecDepth 100000 in
set_option maxHeartbeats 4000000 in
theorem t_X1_costBetween {l : Launch} {E : En} (w : Wd) (x1 : Int32) (x2 : Int32) (x3 : Int32) : ∀ q, f_X1_costBetween   w x1 x2 x3 = some q → Mt l E yX1_costBetween cX1_costBetween 5 (some .int) (rmk 1) [.ref (E.1 7 16), .int (x1), .int (x2), .int (x3)] w (eI q.1) q.2 := by
  refine Mt.of [some (.ref (E.1 7 16)), some (.int (x1)), some (.int (x2)), some (.int (x3)), none] (plainFor_of_name pn_X1) rfl (Nat.le_of_ble_eq_true rfl) rfl ?_
  unfold f_X1_costBetween
  refine gm_iload_n dX1_costBetween_0 rfl rfl ?_
  refine gm_bipush (v := 8) dX1_costBetween_1 (by decide) ?_
  refine gm_imul dX1_costBetween_3 ?_
  refine gm_iload_n dX1_costBetween_4 rfl rfl ?_
  refine gm_iadd dX1_costBetween_5 ?_
  refine gm_leti_st (fun u1 => ?_)
  refine gm_istore (lv' := [some (.ref (E.1 7 16)), some (.int (x1)), some (.int (x2)), some (.int (x3)), some (.int (u1))]) dX1_costBetween_6 (by decide) rfl rfl ?_
  refine gm_iload dX1_costBetween_8 rfl ?_
  refine gm_if_lt (tgt := 20) dX1_costBetween_10 (by decide) ?_ ?_
  · refine gm_ldc (v := 1000000) dX1_costBetween_20 tb_284 ?_
    exact gm_iret dX1_costBetween_22
  · refine gm_iload dX1_costBetween_13 rfl ?_
    refine gm_bipush (v := 64) dX1_costBetween_15 (by decide) ?_
    refine gm_icmp_lt (tgt := 23) dX1_costBetween_17 (by decide) ?_ ?_
    · refine gm_iload_n dX1_costBetween_23 rfl rfl ?_
      refine gm_bipush (v := (-9)) dX1_costBetween_24 (by decide) ?_
      refine gm_icmp_ne (tgt := 39) dX1_costBetween_26 (by decide) ?_ ?_
      · refine gm_aload_n dX1_costBetween_39 rfl rfl ?_
        refine gm_get dX1_costBetween_40 ce_7_16 rfl inX1 1 (by decide) tb_286 rfl rfl ?_
        refine gm_iload dX1_costBetween_43 rfl ?_
        refine gm_iald dX1_costBetween_45 ce_7_18 ?_
        exact gm_iret dX1_costBetween_46
      · refine gm_aload_n dX1_costBetween_29 rfl rfl ?_
        refine gm_get dX1_costBetween_30 ce_7_16 rfl inX1 0 (by decide) tb_285 rfl rfl ?_
        refine gm_iload dX1_costBetween_33 rfl ?_
        refine gm_iald dX1_costBetween_35 ce_7_17 ?_
        refine gm_goto (tgt := 46) dX1_costBetween_36 (by decide) ?_
        exact gm_iret dX1_costBetween_46
    · refine gm_ldc (v := 1000000) dX1_costBetween_20 tb_284 ?_
      exact gm_iret dX1_costBetween_22

noncomputable def b_X1_arrive_80 (n : Nat) (ra : Nat → Wd → Int32 → Int32 → Int32 → Int32 → Option (Unit × Wd)) (rc80 : Wd → Int32 → Int32 → Int32 → Int32 → Int32 → Option (Unit × Wd)) (w : Wd) (y2 : Int32) (y3 : Int32) (y5 : Int32) (y7 : Int32) (y8 : Int32) : Option (Unit × Wd) :=
  if (p_X4_switchCount n w) ≤ y8 then
    some ((), w)
  else
    (f_X1_costBetween w y2 y8 y7).bind fun q5 =>
    if q5.1 = 1000000 then
      rc80 q5.2 y2 y3 y5 y7 (y8 + 1)
    else
      (ra n q5.2 y8 (y3 ||| (1 <<< (y2 &&& 31))) y7 (y5 + q5.1)).bind fun q6 =>
      rc80 q6.2 y2 y3 y5 y7 (y8 + 1)
set_option maxRecDepth 100000 in
set_option maxHeartbeats 4000000 in
theorem kb_X1_arrive_80 {l : Launch} {E : En} (n : Nat) (hn : n < 7) (ra : Nat → Wd → Int32 → Int32 → Int32 → Int32 → Option (Unit × Wd)) (ha : Nat) (hha : 20 ≤ ha) (hra : ∀ (n : Nat) (hn : n < 7) (w : Wd) (x2 : Int32) (x3 : Int32) (x4 : Int32) (x5 : Int32) (q : Unit × Wd), ra n w x2 x3 x4 x5 = some q → Mt l E yX1_arrive cX1_arrive 10 none (rmk ha) [.ref (E.1 7 16), .ref (E.1 n 0), .int (x2), .int (x3), .int (x4), .int (x5)] w (eV q.1) q.2) (rc80 : Wd → Int32 → Int32 → Int32 → Int32 → Int32 → Option (Unit × Wd)) (hrc80 : ∀ (w : Wd) (y2 : Int32) (y3 : Int32) (y5 : Int32) (y7 : Int32) (y8 : Int32), Gm l E cX1_arrive 10 RX1 none (rmk (ha + 1)) eV (rc80 w y2 y3 y5 y7 y8) w 80 [some (.ref (E.1 7 16)), some (.ref (E.1 n 0)), some (.int (y2)), some (.int (y3)), none, some (.int (y5)), none, some (.int (y7)), some (.int (y8)), none] []) (w : Wd) (y2 : Int32) (y3 : Int32) (y5 : Int32) (y7 : Int32) (y8 : Int32) : Gm l E cX1_arrive 10 RX1 none (rmk (ha + 1)) eV (b_X1_arrive_80 n ra rc80 w y2 y3 y5 y7 y8) w 80 [some (.ref (E.1 7 16)), some (.ref (E.1 n 0)), some (.int (y2)), some (.int (y3)), none, some (.int (y5)), none, some (.int (y7)), some (.int (y8)), none] [] := by
  unfold b_X1_arrive_80
  refine gm_iload dX1_arrive_80 rfl ?_
  refine gm_aload_n dX1_arrive_82 rfl rfl ?_
  refine gm_callVk (As := []) dX1_arrive_83 (tk_X4_switchCount n hn w) (ce_n_0 (n := n) hn) rfl cy_X4_switchCount tb_778 rfl rfl (rm_ok (by omega) (by decide)) (Nat.le_of_ble_eq_true rfl) ?_
  refine gm_icmp_ge (tgt := 132) dX1_arrive_86 (by decide) ?_ ?_
  · exact gm_vret dX1_arrive_132
  · refine gm_aload_n dX1_arrive_89 rfl rfl ?_
    refine gm_iload_n dX1_arrive_90 rfl rfl ?_
    refine gm_iload dX1_arrive_91 rfl ?_
    refine gm_iload dX1_arrive_93 rfl ?_
    refine gm_callVi (As := [.int (y2), .int (y8), .int (y7)]) dX1_arrive_95 (t_X1_costBetween w y2 y8 y7) ce_7_16 rfl cy_X1_costBetween tb_804 rfl rfl (rm_ok (by omega) (by decide)) (Nat.le_of_ble_eq_true rfl) (fun q5 => ?_)
    refine gm_istore (lv' := [some (.ref (E.1 7 16)), some (.ref (E.1 n 0)), some (.int (y2)), some (.int (y3)), none, some (.int (y5)), none, some (.int (y7)), some (.int (y8)), some (.int (q5.1))]) dX1_arrive_98 (by decide) rfl rfl ?_
    refine gm_iload dX1_arrive_100 rfl ?_
    refine gm_ldc (v := 1000000) dX1_arrive_102 tb_284 ?_
    refine gm_icmp_eq (tgt := 126) dX1_arrive_104 (by decide) ?_ ?_
    · refine gm_iinc (v := 1) (lv' := [some (.ref (E.1 7 16)), some (.ref (E.1 n 0)), some (.int (y2)), some (.int (y3)), none, some (.int (y5)), none, some (.int (y7)), some (.int (y8 + 1)), some (.int (q5.1))]) dX1_arrive_126 rfl (by decide) (by decide) rfl rfl ?_
      refine gm_goto (tgt := 80) dX1_arrive_129 (by decide) ?_
      exact gm_weak (lsub_s (lsub_s (lsub_s (lsub_s (lsub_n (lsub_s (lsub_n (lsub_s (lsub_s (lsub_n lsub_0)))))))))) (hrc80 q5.2 y2 y3 y5 y7 (y8 + 1))
    · refine gm_aload_n dX1_arrive_107 rfl rfl ?_
      refine gm_aload_n dX1_arrive_108 rfl rfl ?_
      refine gm_iload dX1_arrive_109 rfl ?_
      refine gm_iload_n dX1_arrive_111 rfl rfl ?_
      refine gm_iconst (v := 1) dX1_arrive_112 (by decide) ?_
      refine gm_iload_n dX1_arrive_113 rfl rfl ?_
      refine gm_ishl dX1_arrive_114 ?_
      refine gm_ior dX1_arrive_115 ?_
      refine gm_iload dX1_arrive_116 rfl ?_
      refine gm_iload dX1_arrive_118 rfl ?_
      refine gm_iload dX1_arrive_120 rfl ?_
      refine gm_iadd dX1_arrive_122 ?_
      refine gm_callVv (As := [.ref (E.1 n 0), .int (y8), .int (y3 ||| (1 <<< (y2 &&& 31))), .int (y7), .int (y5 + q5.1)]) dX1_arrive_123 (hra n hn q5.2 y8 (y3 ||| (1 <<< (y2 &&& 31))) y7 (y5 + q5.1)) ce_7_16 rfl cy_X1_arrive tb_797 rfl rfl (rm_ok (by omega) (by decide)) (Nat.le_of_ble_eq_true rfl) (fun q6 => ?_)
      refine gm_iinc (v := 1) (lv' := [some (.ref (E.1 7 16)), some (.ref (E.1 n 0)), some (.int (y2)), some (.int (y3)), none, some (.int (y5)), none, some (.int (y7)), some (.int (y8 + 1)), some (.int (q5.1))]) dX1_arrive_126 rfl (by decide) (by decide) rfl rfl ?_
      refine gm_goto (tgt := 80) dX1_arrive_129 (by decide) ?_
      exact gm_weak (lsub_s (lsub_s (lsub_s (lsub_s (lsub_n (lsub_s (lsub_n (lsub_s (lsub_s (lsub_n lsub_0)))))))))) (hrc80 q6.2 y2 y3 y5 y7 (y8 + 1))
noncomputable def h_X1_arrive_80 (n : Nat) (ra : Nat → Wd → Int32 → Int32 → Int32 → Int32 → Option (Unit × Wd)) : Nat → (Wd → Int32 → Int32 → Int32 → Int32 → Int32 → Option (Unit × Wd))
  | 0 => fun _ _ _ _ _ _ => none
  | fu + 1 => b_X1_arrive_80 n ra  (h_X1_arrive_80 n ra  fu)
set_option maxRecDepth 100000 in
set_option maxHeartbeats 4000000 in
theorem k_X1_arrive_80 {l : Launch} {E : En} (n : Nat) (hn : n < 7) (ra : Nat → Wd → Int32 → Int32 → Int32 → Int32 → Option (Unit × Wd)) (ha : Nat) (hha : 20 ≤ ha) (hra : ∀ (n : Nat) (hn : n < 7) (w : Wd) (x2 : Int32) (x3 : Int32) (x4 : Int32) (x5 : Int32) (q : Unit × Wd), ra n w x2 x3 x4 x5 = some q → Mt l E yX1_arrive cX1_arrive 10 none (rmk ha) [.ref (E.1 7 16), .ref (E.1 n 0), .int (x2), .int (x3), .int (x4), .int (x5)] w (eV q.1) q.2) : ∀ (fu : Nat) (w : Wd) (y2 : Int32) (y3 : Int32) (y5 : Int32) (y7 : Int32) (y8 : Int32), Gm l E cX1_arrive 10 RX1 none (rmk (ha + 1)) eV (h_X1_arrive_80 n ra  fu w y2 y3 y5 y7 y8) w 80 [some (.ref (E.1 7 16)), some (.ref (E.1 n 0)), some (.int (y2)), some (.int (y3)), none, some (.int (y5)), none, some (.int (y7)), some (.int (y8)), none] []
  | 0, _, _, _, _, _, _ => gm_none
  | fu + 1, w, y2, y3, y5, y7, y8 => kb_X1_arrive_80 n hn ra ha hha hra  (h_X1_arrive_80 n ra  fu)  (fun w y2 y3 y5 y7 y8 => k_X1_arrive_80 n hn ra ha hha hra   fu w y2 y3 y5 y7 y8) w y2 y3 y5 y7 y8
noncomputable def b_X1_arrive (ra : Nat → Wd → Int32 → Int32 → Int32 → Int32 → Option (Unit × Wd)) (n : Nat) (w : Wd) (x2 : Int32) (x3 : Int32) (x4 : Int32) (x5 : Int32) : Option (Unit × Wd) :=
  leti (p_J6_bitCount_0f7a4 w x3) fun u1 =>
  if ((x3 >>> (x2 &&& 31)) &&& 1) = 0 then
    if (p_X4_hopLimit n w) ≤ u1 then
      some ((), w)
    else
      if 6 ≤ u1 then
        some ((), w)
      else
        if x5 < (w 7 16 3) then
          (f_X4_markAt n w x2 (w 7 16 2) x4).bind fun q2 =>
          if q2.1 = x2 then
            letw (wup q2.2 7 16 3 x5) fun w3 =>
            some ((), w3)
          else
            (f_X1_costBetween q2.2 x2 x2 q2.1).bind fun q4 =>
            if q4.1 = 0 then
              letw (wup q4.2 7 16 3 x5) fun w7 =>
              some ((), w7)
            else
              h_X1_arrive_80 n ra FU q4.2 x2 x3 x5 q2.1 0
        else
          some ((), w)
  else
    some ((), w)
set_option maxRecDepth 100000 in
set_option maxHeartbeats 4000000 in
theorem tb_X1_arrive {l : Launch} {E : En} (ra : Nat → Wd → Int32 → Int32 → Int32 → Int32 → Option (Unit × Wd)) (ha : Nat) (hha : 20 ≤ ha) (hra : ∀ (n : Nat) (hn : n < 7) (w : Wd) (x2 : Int32) (x3 : Int32) (x4 : Int32) (x5 : Int32) (q : Unit × Wd), ra n w x2 x3 x4 x5 = some q → Mt l E yX1_arrive cX1_arrive 10 none (rmk ha) [.ref (E.1 7 16), .ref (E.1 n 0), .int (x2), .int (x3), .int (x4), .int (x5)] w (eV q.1) q.2) (n : Nat) (hn : n < 7) (w : Wd) (x2 : Int32) (x3 : Int32) (x4 : Int32) (x5 : Int32) : ∀ q, b_X1_arrive ra n w x2 x3 x4 x5 = some q → Mt l E yX1_arrive cX1_arrive 10 none (rmk (ha + 1)) [.ref (E.1 7 16), .ref (E.1 n 0), .int (x2), .int (x3), .int (x4), .int (x5)] w (eV q.1) q.2 := by
  refine Mt.of [some (.ref (E.1 7 16)), some (.ref (E.1 n 0)), some (.int (x2)), some (.int (x3)), some (.int (x4)), some (.int (x5)), none, none, none, none] (plainFor_of_name pn_X1) rfl (Nat.le_of_ble_eq_true rfl) rfl ?_
  unfold b_X1_arrive
  refine gm_iload_n dX1_arrive_0 rfl rfl ?_
  refine gm_callSk (As := [.int (x3)]) dX1_arrive_1 (tk_J6_bitCount_0f7a4 w x3) cy_J6_bitCount_0f7a4 tb_801 rfl rfl (rm_ok (by omega) (by decide)) (Nat.le_of_ble_eq_true rfl) ?_
  refine gm_leti_st (fun u1 => ?_)
  refine gm_istore (lv' := [some (.ref (E.1 7 16)), some (.ref (E.1 n 0)), some (.int (x2)), some (.int (x3)), some (.int (x4)), some (.int (x5)), some (.int (u1)), none, none, none]) dX1_arrive_4 (by decide) rfl rfl ?_
  refine gm_iload_n dX1_arrive_6 rfl rfl ?_
  refine gm_iload_n dX1_arrive_7 rfl rfl ?_
  refine gm_ishr dX1_arrive_8 ?_
  refine gm_iconst (v := 1) dX1_arrive_9 (by decide) ?_
  refine gm_iand dX1_arrive_10 ?_
  refine gm_if_ne (tgt := 39) dX1_arrive_11 (by decide) ?_ ?_
  · exact gm_vret dX1_arrive_39
  · refine gm_iload dX1_arrive_14 rfl ?_
    refine gm_aload_n dX1_arrive_16 rfl rfl ?_
    refine gm_callVk (As := []) dX1_arrive_17 (tk_X4_hopLimit n hn w) (ce_n_0 (n := n) hn) rfl cy_X4_hopLimit tb_802 rfl rfl (rm_ok (by omega) (by decide)) (Nat.le_of_ble_eq_true rfl) ?_
    refine gm_icmp_ge (tgt := 39) dX1_arrive_20 (by decide) ?_ ?_
    · exact gm_vret dX1_arrive_39
    · refine gm_iload dX1_arrive_23 rfl ?_
      refine gm_bipush (v := 6) dX1_arrive_25 (by decide) ?_
      refine gm_icmp_ge (tgt := 39) dX1_arrive_27 (by decide) ?_ ?_
      · exact gm_vret dX1_arrive_39
      · refine gm_iload dX1_arrive_30 rfl ?_
        refine gm_aload_n dX1_arrive_32 rfl rfl ?_
        refine gm_get dX1_arrive_33 ce_7_16 rfl inX1 3 (by decide) tb_288 rfl rfl ?_
        refine gm_icmp_lt (tgt := 40) dX1_arrive_36 (by decide) ?_ ?_
        · refine gm_aload_n dX1_arrive_40 rfl rfl ?_
          refine gm_iload_n dX1_arrive_41 rfl rfl ?_
          refine gm_aload_n dX1_arrive_42 rfl rfl ?_
          refine gm_get dX1_arrive_43 ce_7_16 rfl inX1 2 (by decide) tb_287 rfl rfl ?_
          refine gm_iload dX1_arrive_46 rfl ?_
          refine gm_callVi (As := [.int (x2), .int (w 7 16 2), .int (x4)]) dX1_arrive_48 (t_X4_markAt n hn w x2 (w 7 16 2) x4) (ce_n_0 (n := n) hn) rfl cy_X4_markAt tb_803 rfl rfl (rm_ok (by omega) (by decide)) (Nat.le_of_ble_eq_true rfl) (fun q2 => ?_)
          refine gm_istore (lv' := [some (.ref (E.1 7 16)), some (.ref (E.1 n 0)), some (.int (x2)), some (.int (x3)), some (.int (x4)), some (.int (x5)), some (.int (u1)), some (.int (q2.1)), none, none]) dX1_arrive_51 (by decide) rfl rfl ?_
          refine gm_iload dX1_arrive_53 rfl ?_
          refine gm_iload_n dX1_arrive_55 rfl rfl ?_
          refine gm_icmp_eq (tgt := 70) dX1_arrive_56 (by decide) ?_ ?_
          · refine gm_aload_n dX1_arrive_70 rfl rfl ?_
            refine gm_iload dX1_arrive_71 rfl ?_
            refine gm_put dX1_arrive_73 ce_7_16 rfl inX1 tyX1 tyX1_ok nmX1 3 (by decide) tb_288 rfl rfl (by decide +kernel) (fun _ => rfl) (fun _ => rfl) (fun w3 => ?_)
            exact gm_vret dX1_arrive_76
          · refine gm_aload_n dX1_arrive_59 rfl rfl ?_
            refine gm_iload_n dX1_arrive_60 rfl rfl ?_
            refine gm_iload_n dX1_arrive_61 rfl rfl ?_
            refine gm_iload dX1_arrive_62 rfl ?_
            refine gm_callVi (As := [.int (x2), .int (x2), .int (q2.1)]) dX1_arrive_64 (t_X1_costBetween q2.2 x2 x2 q2.1) ce_7_16 rfl cy_X1_costBetween tb_804 rfl rfl (rm_ok (by omega) (by decide)) (Nat.le_of_ble_eq_true rfl) (fun q4 => ?_)
            refine gm_if_ne (tgt := 77) dX1_arrive_67 (by decide) ?_ ?_
            · refine gm_iconst (v := 0) dX1_arrive_77 (by decide) ?_
              refine gm_istore (lv' := [some (.ref (E.1 7 16)), some (.ref (E.1 n 0)), some (.int (x2)), some (.int (x3)), some (.int (x4)), some (.int (x5)), some (.int (u1)), some (.int (q2.1)), some (.int (0)), none]) dX1_arrive_78 (by decide) rfl rfl ?_
              exact gm_weak (lsub_s (lsub_s (lsub_s (lsub_s (lsub_n (lsub_s (lsub_n (lsub_s (lsub_s (lsub_n lsub_0)))))))))) (k_X1_arrive_80 n hn ra ha hha hra FU q4.2 x2 x3 x5 q2.1 0)
            · refine gm_aload_n dX1_arrive_70 rfl rfl ?_
              refine gm_iload dX1_arrive_71 rfl ?_
              refine gm_put dX1_arrive_73 ce_7_16 rfl inX1 tyX1 tyX1_ok nmX1 3 (by decide) tb_288 rfl rfl (by decide +kernel) (fun _ => rfl) (fun _ => rfl) (fun w7 => ?_)
              exact gm_vret dX1_arrive_76
        · exact gm_vret dX1_arrive_39
noncomputable def f_X1_arrive : Nat → (Nat → Wd → Int32 → Int32 → Int32 → Int32 → Option (Unit × Wd))
  | 0 => fun _ _ _ _ _ _ => none
  | d + 1 => b_X1_arrive (f_X1_arrive d)
set_option maxRecDepth 100000 in
set_option maxHeartbeats 4000000 in
theorem t_X1_arrive {l : Launch} {E : En} : ∀ (d : Nat) (n : Nat) (hn : n < 7) (w : Wd) (x2 : Int32) (x3 : Int32) (x4 : Int32) (x5 : Int32) (q : Unit × Wd), f_X1_arrive d n w x2 x3 x4 x5 = some q → Mt l E yX1_arrive cX1_arrive 10 none (rmk (20 + 1 * d)) [.ref (E.1 7 16), .ref (E.1 n 0), .int (x2), .int (x3), .int (x4), .int (x5)] w (eV q.1) q.2
  | 0, _, _, _, _, _, _, _, q, h => by cases h
  | d + 1, n, hn, w, x2, x3, x4, x5, q, h => tb_X1_arrive (f_X1_arrive d) (20 + 1 * d) (by omega) (fun n hn w x2 x3 x4 x5 q => t_X1_arrive d n hn w x2 x3 x4 x5 q) n hn w x2 x3 x4 x5 q h

noncomputable def j_X1_fillSwitch_90 (n : Nat) (c3 : Nat) (rc18 : Wd → Int32 → Int32 → Int32 → Int32 → Option (Unit × Wd)) (w : Wd) (y3 : Int32) (y4 : Int32) (y6 : Int32) (y7 : Int32) (y8 : Int32) (z0 : Int32) : Option (Unit × Wd) :=
  if ib y8 64 = true then
  if ib y8 64 = true then
  letw (wup w 7 c3 (Int32.toNatClampNeg y8) (p_J9_min_7cf53 w (w 7 c3 (Int32.toNatClampNeg y8)) z0)) fun w7 =>
  rc18 w7 y3 y4 y6 (y7 + 1)
  else none
  else none
set_option maxRecDepth 100000 in
set_option maxHeartbeats 4000000 in
theorem k_X1_fillSwitch_90 {l : Launch} {E : En} (n : Nat) (c3 : Nat) (hn : n < 7) (hc3 : AI E 7 c3 64) (rc18 : Wd → Int32 → Int32 → Int32 → Int32 → Option (Unit × Wd)) (hrc18 : ∀ (w : Wd) (y3 : Int32) (y4 : Int32) (y6 : Int32) (y7 : Int32), Gm l E cX1_fillSwitch 10 RX1 none (rmk (3)) eV (rc18 w y3 y4 y6 y7) w 18 [none, none, some (.ref (E.1 7 c3)), some (.int (y3)), some (.int (y4)), some (.ref (E.1 n 3)), some (.int (y6)), some (.int (y7)), none, none] []) (w : Wd) (y3 : Int32) (y4 : Int32) (y6 : Int32) (y7 : Int32) (y8 : Int32) (z0 : Int32) : Gm l E cX1_fillSwitch 10 RX1 none (rmk (3)) eV (j_X1_fillSwitch_90 n c3  rc18 w y3 y4 y6 y7 y8 z0) w 90 [none, none, some (.ref (E.1 7 c3)), some (.int (y3)), some (.int (y4)), some (.ref (E.1 n 3)), some (.int (y6)), some (.int (y7)), some (.int (y8)), none] [.int (z0)] := by
  unfold j_X1_fillSwitch_90
  refine gm_istore (lv' := [none, none, some (.ref (E.1 7 c3)), some (.int (y3)), some (.int (y4)), some (.ref (E.1 n 3)), some (.int (y6)), some (.int (y7)), some (.int (y8)), some (.int (z0))]) dX1_fillSwitch_90 (by decide) rfl rfl ?_
  refine gm_aload_n dX1_fillSwitch_92 rfl rfl ?_
  refine gm_iload dX1_fillSwitch_93 rfl ?_
  refine gm_aload_n dX1_fillSwitch_95 rfl rfl ?_
  refine gm_iload dX1_fillSwitch_96 rfl ?_
  refine gm_iald dX1_fillSwitch_98 hc3 ?_
  refine gm_iload dX1_fillSwitch_99 rfl ?_
  refine gm_callSk (As := [.int (w 7 c3 (Int32.toNatClampNeg y8)), .int (z0)]) dX1_fillSwitch_101 (tk_J9_min_7cf53 w (w 7 c3 (Int32.toNatClampNeg y8)) z0) cy_J9_min_7cf53 tb_792 rfl rfl (rm_ok (by decide) (by decide)) (Nat.le_of_ble_eq_true rfl) ?_
  refine gm_iast dX1_fillSwitch_104 hc3 (fun w7 => ?_)
  refine gm_iinc (v := 1) (lv' := [none, none, some (.ref (E.1 7 c3)), some (.int (y3)), some (.int (y4)), some (.ref (E.1 n 3)), some (.int (y6)), some (.int (y7 + 1)), some (.int (y8)), some (.int (z0))]) dX1_fillSwitch_105 rfl (by decide) (by decide) rfl rfl ?_
  refine gm_goto (tgt := 18) dX1_fillSwitch_108 (by decide) ?_
  exact gm_weak (lsub_n (lsub_n (lsub_s (lsub_s (lsub_s (lsub_s (lsub_s (lsub_s (lsub_n (lsub_n lsub_0)))))))))) (hrc18 w7 y3 y4 y6 (y7 + 1))
noncomputable def b_X1_fillSwitch_18 (n : Nat) (c3 : Nat) (rc18 : Wd → Int32 → Int32 → Int32 → Int32 → Option (Unit × Wd)) (w : Wd) (y3 : Int32) (y4 : Int32) (y6 : Int32) (y7 : Int32) : Option (Unit × Wd) :=
  if (p_X6_size n w) ≤ y7 then
    some ((), w)
  else
    (f_X6_nextOf n w y7).bind fun q2 =>
    leti ((y3 * 8) + q2.1) fun u3 =>
    (f_X6_belongs n q2.2 y7 y3 y4).bind fun q4 =>
    if q4.1 = 0 then
      rc18 q4.2 y3 y4 y6 (y7 + 1)
    else
      if u3 < 0 then
        rc18 q4.2 y3 y4 y6 (y7 + 1)
      else
        if 64 ≤ u3 then
          rc18 q4.2 y3 y4 y6 (y7 + 1)
        else
          (f_X6_serves n q4.2 y7).bind fun q5 =>
          if q5.1 = 0 then
            (f_X6_costOf n q5.2 y7 y6).bind fun q6 =>
            j_X1_fillSwitch_90 n c3 rc18 q6.2 y3 y4 y6 y7 u3 q6.1
          else
            j_X1_fillSwitch_90 n c3 rc18 q5.2 y3 y4 y6 y7 u3 0
set_option maxRecDepth 100000 in
set_option maxHeartbeats 4000000 in
theorem kb_X1_fillSwitch_18 {l : Launch} {E : En} (n : Nat) (c3 : Nat) (hn : n < 7) (hc3 : AI E 7 c3 64) (rc18 : Wd → Int32 → Int32 → Int32 → Int32 → Option (Unit × Wd)) (hrc18 : ∀ (w : Wd) (y3 : Int32) (y4 : Int32) (y6 : Int32) (y7 : Int32), Gm l E cX1_fillSwitch 10 RX1 none (rmk (3)) eV (rc18 w y3 y4 y6 y7) w 18 [none, none, some (.ref (E.1 7 c3)), some (.int (y3)), some (.int (y4)), some (.ref (E.1 n 3)), some (.int (y6)), some (.int (y7)), none, none] []) (w : Wd) (y3 : Int32) (y4 : Int32) (y6 : Int32) (y7 : Int32) : Gm l E cX1_fillSwitch 10 RX1 none (rmk (3)) eV (b_X1_fillSwitch_18 n c3  rc18 w y3 y4 y6 y7) w 18 [none, none, some (.ref (E.1 7 c3)), some (.int (y3)), some (.int (y4)), some (.ref (E.1 n 3)), some (.int (y6)), some (.int (y7)), none, none] [] := by
  unfold b_X1_fillSwitch_18
  refine gm_iload dX1_fillSwitch_18 rfl ?_
  refine gm_aload dX1_fillSwitch_20 rfl ?_
  refine gm_callVk (As := []) dX1_fillSwitch_22 (tk_X6_size n hn w) (ce_n_3 (n := n) hn) rfl cy_X6_size tb_787 rfl rfl (rm_ok (by decide) (by decide)) (Nat.le_of_ble_eq_true rfl) ?_
  refine gm_icmp_ge (tgt := 111) dX1_fillSwitch_25 (by decide) ?_ ?_
  · exact gm_vret dX1_fillSwitch_111
  · refine gm_iload_n dX1_fillSwitch_28 rfl rfl ?_
    refine gm_bipush (v := 8) dX1_fillSwitch_29 (by decide) ?_
    refine gm_imul dX1_fillSwitch_31 ?_
    refine gm_aload dX1_fillSwitch_32 rfl ?_
    refine gm_iload dX1_fillSwitch_34 rfl ?_
    refine gm_callVi (As := [.int (y7)]) dX1_fillSwitch_36 (t_X6_nextOf n hn w y7) (ce_n_3 (n := n) hn) rfl cy_X6_nextOf tb_788 rfl rfl (rm_ok (by decide) (by decide)) (Nat.le_of_ble_eq_true rfl) (fun q2 => ?_)
    refine gm_iadd dX1_fillSwitch_39 ?_
    refine gm_leti_st (fun u3 => ?_)
    refine gm_istore (lv' := [none, none, some (.ref (E.1 7 c3)), some (.int (y3)), some (.int (y4)), some (.ref (E.1 n 3)), some (.int (y6)), some (.int (y7)), some (.int (u3)), none]) dX1_fillSwitch_40 (by decide) rfl rfl ?_
    refine gm_aload dX1_fillSwitch_42 rfl ?_
    refine gm_iload dX1_fillSwitch_44 rfl ?_
    refine gm_iload_n dX1_fillSwitch_46 rfl rfl ?_
    refine gm_iload dX1_fillSwitch_47 rfl ?_
    refine gm_callVi (As := [.int (y7), .int (y3), .int (y4)]) dX1_fillSwitch_49 (t_X6_belongs n hn q2.2 y7 y3 y4) (ce_n_3 (n := n) hn) rfl cy_X6_belongs tb_789 rfl rfl (rm_ok (by decide) (by decide)) (Nat.le_of_ble_eq_true rfl) (fun q4 => ?_)
    refine gm_if_eq (tgt := 105) dX1_fillSwitch_52 (by decide) ?_ ?_
    · refine gm_iinc (v := 1) (lv' := [none, none, some (.ref (E.1 7 c3)), some (.int (y3)), some (.int (y4)), some (.ref (E.1 n 3)), some (.int (y6)), some (.int (y7 + 1)), some (.int (u3)), none]) dX1_fillSwitch_105 rfl (by decide) (by decide) rfl rfl ?_
      refine gm_goto (tgt := 18) dX1_fillSwitch_108 (by decide) ?_
      exact gm_weak (lsub_n (lsub_n (lsub_s (lsub_s (lsub_s (lsub_s (lsub_s (lsub_s (lsub_n (lsub_n lsub_0)))))))))) (hrc18 q4.2 y3 y4 y6 (y7 + 1))
    · refine gm_iload dX1_fillSwitch_55 rfl ?_
      refine gm_if_lt (tgt := 105) dX1_fillSwitch_57 (by decide) ?_ ?_
      · refine gm_iinc (v := 1) (lv' := [none, none, some (.ref (E.1 7 c3)), some (.int (y3)), some (.int (y4)), some (.ref (E.1 n 3)), some (.int (y6)), some (.int (y7 + 1)), some (.int (u3)), none]) dX1_fillSwitch_105 rfl (by decide) (by decide) rfl rfl ?_
        refine gm_goto (tgt := 18) dX1_fillSwitch_108 (by decide) ?_
        exact gm_weak (lsub_n (lsub_n (lsub_s (lsub_s (lsub_s (lsub_s (lsub_s (lsub_s (lsub_n (lsub_n lsub_0)))))))))) (hrc18 q4.2 y3 y4 y6 (y7 + 1))
      · refine gm_iload dX1_fillSwitch_60 rfl ?_
        refine gm_aload_n dX1_fillSwitch_62 rfl rfl ?_
        refine gm_alen (v := 64) dX1_fillSwitch_63 hc3 (by decide) ?_
        refine gm_icmp_ge (tgt := 105) dX1_fillSwitch_64 (by decide) ?_ ?_
        · refine gm_iinc (v := 1) (lv' := [none, none, some (.ref (E.1 7 c3)), some (.int (y3)), some (.int (y4)), some (.ref (E.1 n 3)), some (.int (y6)), some (.int (y7 + 1)), some (.int (u3)), none]) dX1_fillSwitch_105 rfl (by decide) (by decide) rfl rfl ?_
          refine gm_goto (tgt := 18) dX1_fillSwitch_108 (by decide) ?_
          exact gm_weak (lsub_n (lsub_n (lsub_s (lsub_s (lsub_s (lsub_s (lsub_s (lsub_s (lsub_n (lsub_n lsub_0)))))))))) (hrc18 q4.2 y3 y4 y6 (y7 + 1))
        · refine gm_aload dX1_fillSwitch_67 rfl ?_
          refine gm_iload dX1_fillSwitch_69 rfl ?_
          refine gm_callVi (As := [.int (y7)]) dX1_fillSwitch_71 (t_X6_serves n hn q4.2 y7) (ce_n_3 (n := n) hn) rfl cy_X6_serves tb_790 rfl rfl (rm_ok (by decide) (by decide)) (Nat.le_of_ble_eq_true rfl) (fun q5 => ?_)
          refine gm_if_eq (tgt := 81) dX1_fillSwitch_74 (by decide) ?_ ?_
          · refine gm_aload dX1_fillSwitch_81 rfl ?_
            refine gm_iload dX1_fillSwitch_83 rfl ?_
            refine gm_iload dX1_fillSwitch_85 rfl ?_
            refine gm_callVi (As := [.int (y7), .int (y6)]) dX1_fillSwitch_87 (t_X6_costOf n hn q5.2 y7 y6) (ce_n_3 (n := n) hn) rfl cy_X6_costOf tb_791 rfl rfl (rm_ok (by decide) (by decide)) (Nat.le_of_ble_eq_true rfl) (fun q6 => ?_)
            exact gm_weak (lsub_n (lsub_n (lsub_s (lsub_s (lsub_s (lsub_s (lsub_s (lsub_s (lsub_s (lsub_n lsub_0)))))))))) (k_X1_fillSwitch_90 n c3 hn hc3 rc18 hrc18 q6.2 y3 y4 y6 y7 u3 q6.1)
          · refine gm_iconst (v := 0) dX1_fillSwitch_77 (by decide) ?_
            refine gm_goto (tgt := 90) dX1_fillSwitch_78 (by decide) ?_
            exact gm_weak (lsub_n (lsub_n (lsub_s (lsub_s (lsub_s (lsub_s (lsub_s (lsub_s (lsub_s (lsub_n lsub_0)))))))))) (k_X1_fillSwitch_90 n c3 hn hc3 rc18 hrc18 q5.2 y3 y4 y6 y7 u3 0)
noncomputable def h_X1_fillSwitch_18 (n : Nat) (c3 : Nat) : Nat → (Wd → Int32 → Int32 → Int32 → Int32 → Option (Unit × Wd))
  | 0 => fun _ _ _ _ _ => none
  | fu + 1 => b_X1_fillSwitch_18 n c3   (h_X1_fillSwitch_18 n c3   fu)
set_option maxRecDepth 100000 in
set_option maxHeartbeats 4000000 in
theorem k_X1_fillSwitch_18 {l : Launch} {E : En} (n : Nat) (c3 : Nat) (hn : n < 7) (hc3 : AI E 7 c3 64) : ∀ (fu : Nat) (w : Wd) (y3 : Int32) (y4 : Int32) (y6 : Int32) (y7 : Int32), Gm l E cX1_fillSwitch 10 RX1 none (rmk (3)) eV (h_X1_fillSwitch_18 n c3   fu w y3 y4 y6 y7) w 18 [none, none, some (.ref (E.1 7 c3)), some (.int (y3)), some (.int (y4)), some (.ref (E.1 n 3)), some (.int (y6)), some (.int (y7)), none, none] []
  | 0, _, _, _, _, _ => gm_none
  | fu + 1, w, y3, y4, y6, y7 => kb_X1_fillSwitch_18 n c3 hn hc3   (h_X1_fillSwitch_18 n c3   fu)  (fun w y3 y4 y6 y7 => k_X1_fillSwitch_18 n c3 hn hc3    fu w y3 y4 y6 y7) w y3 y4 y6 y7
noncomputable def f_X1_fillSwitch (n : Nat) (c3 : Nat) (w : Wd) (x3 : Int32) (x4 : Int32) : Option (Unit × Wd) :=
  (f_X9_bandOf w (p_X4_minutes n w)).bind fun q1 =>
  h_X1_fillSwitch_18 n c3 FU q1.2 x3 x4 q1.1 0
set_option maxRecDepth 100000 in
set_option maxHeartbeats 4000000 in
theorem t_X1_fillSwitch {l : Launch} {E : En} (n : Nat) (c3 : Nat) (hn : n < 7) (hc3 : AI E 7 c3 64) (w : Wd) (x3 : Int32) (x4 : Int32) : ∀ q, f_X1_fillSwitch  n c3 w x3 x4 = some q → Mt l E yX1_fillSwitch cX1_fillSwitch 10 none (rmk 3) [.ref (E.1 7 16), .ref (E.1 n 0), .ref (E.1 7 c3), .int (x3), .int (x4)] w (eV q.1) q.2 := by
  refine Mt.of [some (.ref (E.1 7 16)), some (.ref (E.1 n 0)), some (.ref (E.1 7 c3)), some (.int (x3)), some (.int (x4)), none, none, none, none, none] (plainFor_of_name pn_X1) rfl (Nat.le_of_ble_eq_true rfl) rfl ?_
  unfold f_X1_fillSwitch
  refine gm_aload_n dX1_fillSwitch_0 rfl rfl ?_
  refine gm_callVk (As := []) dX1_fillSwitch_1 (tk_X4_routeRows n hn w) (ce_n_0 (n := n) hn) rfl cy_X4_routeRows tb_779 rfl rfl (rm_ok (by decide) (by decide)) (Nat.le_of_ble_eq_true rfl) ?_
  refine gm_astore (lv' := [some (.ref (E.1 7 16)), some (.ref (E.1 n 0)), some (.ref (E.1 7 c3)), some (.int (x3)), some (.int (x4)), some (.ref (E.1 n 3)), none, none, none, none]) dX1_fillSwitch_4 (by decide) rfl rfl ?_
  refine gm_aload_n dX1_fillSwitch_6 rfl rfl ?_
  refine gm_callVk (As := []) dX1_fillSwitch_7 (tk_X4_minutes n hn w) (ce_n_0 (n := n) hn) rfl cy_X4_minutes tb_785 rfl rfl (rm_ok (by decide) (by decide)) (Nat.le_of_ble_eq_true rfl) ?_
  refine gm_callNi (As := [.int (p_X4_minutes n w)]) dX1_fillSwitch_10 (t_X9_bandOf w (p_X4_minutes n w)) cy_X9_bandOf tb_786 rfl rfl (rm_ok (by decide) (by decide)) (Nat.le_of_ble_eq_true rfl) (fun q1 => ?_)
  refine gm_istore (lv' := [some (.ref (E.1 7 16)), some (.ref (E.1 n 0)), some (.ref (E.1 7 c3)), some (.int (x3)), some (.int (x4)), some (.ref (E.1 n 3)), some (.int (q1.1)), none, none, none]) dX1_fillSwitch_13 (by decide) rfl rfl ?_
  refine gm_iconst (v := 0) dX1_fillSwitch_15 (by decide) ?_
  refine gm_istore (lv' := [some (.ref (E.1 7 16)), some (.ref (E.1 n 0)), some (.ref (E.1 7 c3)), some (.int (x3)), some (.int (x4)), some (.ref (E.1 n 3)), some (.int (q1.1)), some (.int (0)), none, none]) dX1_fillSwitch_16 (by decide) rfl rfl ?_
  exact gm_weak (lsub_n (lsub_n (lsub_s (lsub_s (lsub_s (lsub_s (lsub_s (lsub_s (lsub_n (lsub_n lsub_0)))))))))) (k_X1_fillSwitch_18 n c3 hn hc3 FU q1.2 x3 x4 q1.1 0)

noncomputable def b_X1_fill_35 (n : Nat) (c3 : Nat) (rc35 : Wd → Int64 → Int32 → Option (Unit × Wd)) (w : Wd) (y4 : Int64) (y6 : Int32) : Option (Unit × Wd) :=
  if (p_X4_switchCount n w) ≤ y6 then
    some ((), w)
  else
    (f_X6_longestPrefix n w y6 y4).bind fun q2 =>
    (f_X1_fillSwitch n c3 q2.2 y6 q2.1).bind fun q3 =>
    rc35 q3.2 y4 (y6 + 1)
set_option maxRecDepth 100000 in
set_option maxHeartbeats 4000000 in
theorem kb_X1_fill_35 {l : Launch} {E : En} (n : Nat) (c3 : Nat) (hn : n < 7) (hc3 : AI E 7 c3 64) (rc35 : Wd → Int64 → Int32 → Option (Unit × Wd)) (hrc35 : ∀ (w : Wd) (y4 : Int64) (y6 : Int32), Gm l E cX1_fill 7 RX1 none (rmk (4)) eV (rc35 w y4 y6) w 35 [some (.ref (E.1 7 16)), some (.ref (E.1 n 0)), some (.ref (E.1 7 c3)), none, some (.long (y4)), none, some (.int (y6))] []) (w : Wd) (y4 : Int64) (y6 : Int32) : Gm l E cX1_fill 7 RX1 none (rmk (4)) eV (b_X1_fill_35 n c3  rc35 w y4 y6) w 35 [some (.ref (E.1 7 16)), some (.ref (E.1 n 0)), some (.ref (E.1 7 c3)), none, some (.long (y4)), none, some (.int (y6))] [] := by
  unfold b_X1_fill_35
  refine gm_iload dX1_fill_35 rfl ?_
  refine gm_aload_n dX1_fill_37 rfl rfl ?_
  refine gm_callVk (As := []) dX1_fill_38 (tk_X4_switchCount n hn w) (ce_n_0 (n := n) hn) rfl cy_X4_switchCount tb_778 rfl rfl (rm_ok (by decide) (by decide)) (Nat.le_of_ble_eq_true rfl) ?_
  refine gm_icmp_ge (tgt := 69) dX1_fill_41 (by decide) ?_ ?_
  · exact gm_vret dX1_fill_69
  · refine gm_aload_n dX1_fill_44 rfl rfl ?_
    refine gm_aload_n dX1_fill_45 rfl rfl ?_
    refine gm_aload_n dX1_fill_46 rfl rfl ?_
    refine gm_iload dX1_fill_47 rfl ?_
    refine gm_aload_n dX1_fill_49 rfl rfl ?_
    refine gm_callVk (As := []) dX1_fill_50 (tk_X4_routeRows n hn w) (ce_n_0 (n := n) hn) rfl cy_X4_routeRows tb_779 rfl rfl (rm_ok (by decide) (by decide)) (Nat.le_of_ble_eq_true rfl) ?_
    refine gm_iload dX1_fill_53 rfl ?_
    refine gm_lload dX1_fill_55 rfl ?_
    refine gm_callVi (As := [.int (y6), .long (y4)]) dX1_fill_57 (t_X6_longestPrefix n hn w y6 y4) (ce_n_3 (n := n) hn) rfl cy_X6_longestPrefix tb_780 rfl rfl (rm_ok (by decide) (by decide)) (Nat.le_of_ble_eq_true rfl) (fun q2 => ?_)
    refine gm_callVv (As := [.ref (E.1 n 0), .ref (E.1 7 c3), .int (y6), .int (q2.1)]) dX1_fill_60 (t_X1_fillSwitch n c3 hn hc3 q2.2 y6 q2.1) ce_7_16 rfl cy_X1_fillSwitch tb_781 rfl rfl (rm_ok (by decide) (by decide)) (Nat.le_of_ble_eq_true rfl) (fun q3 => ?_)
    refine gm_iinc (v := 1) (lv' := [some (.ref (E.1 7 16)), some (.ref (E.1 n 0)), some (.ref (E.1 7 c3)), none, some (.long (y4)), none, some (.int (y6 + 1))]) dX1_fill_63 rfl (by decide) (by decide) rfl rfl ?_
    refine gm_goto (tgt := 35) dX1_fill_66 (by decide) ?_
    exact gm_weak (lsub_s (lsub_s (lsub_s (lsub_n (lsub_s (lsub_n (lsub_s lsub_0))))))) (hrc35 q3.2 y4 (y6 + 1))
noncomputable def h_X1_fill_35 (n : Nat) (c3 : Nat) : Nat → (Wd → Int64 → Int32 → Option (Unit × Wd))
  | 0 => fun _ _ _ => none
  | fu + 1 => b_X1_fill_35 n c3   (h_X1_fill_35 n c3   fu)
set_option maxRecDepth 100000 in
set_option maxHeartbeats 4000000 in
theorem k_X1_fill_35 {l : Launch} {E : En} (n : Nat) (c3 : Nat) (hn : n < 7) (hc3 : AI E 7 c3 64) : ∀ (fu : Nat) (w : Wd) (y4 : Int64) (y6 : Int32), Gm l E cX1_fill 7 RX1 none (rmk (4)) eV (h_X1_fill_35 n c3   fu w y4 y6) w 35 [some (.ref (E.1 7 16)), some (.ref (E.1 n 0)), some (.ref (E.1 7 c3)), none, some (.long (y4)), none, some (.int (y6))] []
  | 0, _, _, _ => gm_none
  | fu + 1, w, y4, y6 => kb_X1_fill_35 n c3 hn hc3   (h_X1_fill_35 n c3   fu)  (fun w y4 y6 => k_X1_fill_35 n c3 hn hc3    fu w y4 y6) w y4 y6
noncomputable def b_X1_fill_3 (n : Nat) (c3 : Nat) (rc3 : Wd → Int32 → Int32 → Option (Unit × Wd)) (w : Wd) (y3 : Int32) (y4 : Int32) : Option (Unit × Wd) :=
  if 64 ≤ y4 then
    (f_X9_digitsOf w (w 7 16 2) y3).bind fun q1 =>
    h_X1_fill_35 n c3 FU q1.2 q1.1 0
  else
    if ib y4 64 = true then
    letw (wup w 7 c3 (Int32.toNatClampNeg y4) 1000000) fun w4 =>
    rc3 w4 y3 (y4 + 1)
    else none
set_option maxRecDepth 100000 in
set_option maxHeartbeats 4000000 in
theorem kb_X1_fill_3 {l : Launch} {E : En} (n : Nat) (c3 : Nat) (hn : n < 7) (hc3 : AI E 7 c3 64) (rc3 : Wd → Int32 → Int32 → Option (Unit × Wd)) (hrc3 : ∀ (w : Wd) (y3 : Int32) (y4 : Int32), Gm l E cX1_fill 7 RX1 none (rmk (4)) eV (rc3 w y3 y4) w 3 [some (.ref (E.1 7 16)), some (.ref (E.1 n 0)), some (.ref (E.1 7 c3)), some (.int (y3)), some (.int (y4)), none, none] []) (w : Wd) (y3 : Int32) (y4 : Int32) : Gm l E cX1_fill 7 RX1 none (rmk (4)) eV (b_X1_fill_3 n c3  rc3 w y3 y4) w 3 [some (.ref (E.1 7 16)), some (.ref (E.1 n 0)), some (.ref (E.1 7 c3)), some (.int (y3)), some (.int (y4)), none, none] [] := by
  unfold b_X1_fill_3
  refine gm_iload dX1_fill_3 rfl ?_
  refine gm_aload_n dX1_fill_5 rfl rfl ?_
  refine gm_alen (v := 64) dX1_fill_6 hc3 (by decide) ?_
  refine gm_icmp_ge (tgt := 22) dX1_fill_7 (by decide) ?_ ?_
  · refine gm_aload_n dX1_fill_22 rfl rfl ?_
    refine gm_get dX1_fill_23 ce_7_16 rfl inX1 2 (by decide) tb_287 rfl rfl ?_
    refine gm_iload_n dX1_fill_26 rfl rfl ?_
    refine gm_callNl (As := [.int (w 7 16 2), .int (y3)]) dX1_fill_27 (t_X9_digitsOf w (w 7 16 2) y3) cy_X9_digitsOf tb_777 rfl rfl (rm_ok (by decide) (by decide)) (Nat.le_of_ble_eq_true rfl) (fun q1 => ?_)
    refine gm_lstore (lv' := [some (.ref (E.1 7 16)), some (.ref (E.1 n 0)), some (.ref (E.1 7 c3)), some (.int (y3)), some (.long (q1.1)), none, none]) dX1_fill_30 (by decide) rfl rfl ?_
    refine gm_iconst (v := 0) dX1_fill_32 (by decide) ?_
    refine gm_istore (lv' := [some (.ref (E.1 7 16)), some (.ref (E.1 n 0)), some (.ref (E.1 7 c3)), some (.int (y3)), some (.long (q1.1)), none, some (.int (0))]) dX1_fill_33 (by decide) rfl rfl ?_
    exact gm_weak (lsub_s (lsub_s (lsub_s (lsub_n (lsub_s (lsub_n (lsub_s lsub_0))))))) (k_X1_fill_35 n c3 hn hc3 FU q1.2 q1.1 0)
  · refine gm_aload_n dX1_fill_10 rfl rfl ?_
    refine gm_iload dX1_fill_11 rfl ?_
    refine gm_ldc (v := 1000000) dX1_fill_13 tb_284 ?_
    refine gm_iast dX1_fill_15 hc3 (fun w4 => ?_)
    refine gm_iinc (v := 1) (lv' := [some (.ref (E.1 7 16)), some (.ref (E.1 n 0)), some (.ref (E.1 7 c3)), some (.int (y3)), some (.int (y4 + 1)), none, none]) dX1_fill_16 rfl (by decide) (by decide) rfl rfl ?_
    refine gm_goto (tgt := 3) dX1_fill_19 (by decide) ?_
    exact gm_weak (lsub_s (lsub_s (lsub_s (lsub_s (lsub_s (lsub_n (lsub_n lsub_0))))))) (hrc3 w4 y3 (y4 + 1))
noncomputable def h_X1_fill_3 (n : Nat) (c3 : Nat) : Nat → (Wd → Int32 → Int32 → Option (Unit × Wd))
  | 0 => fun _ _ _ => none
  | fu + 1 => b_X1_fill_3 n c3   (h_X1_fill_3 n c3   fu)
set_option maxRecDepth 100000 in
set_option maxHeartbeats 4000000 in
theorem k_X1_fill_3 {l : Launch} {E : En} (n : Nat) (c3 : Nat) (hn : n < 7) (hc3 : AI E 7 c3 64) : ∀ (fu : Nat) (w : Wd) (y3 : Int32) (y4 : Int32), Gm l E cX1_fill 7 RX1 none (rmk (4)) eV (h_X1_fill_3 n c3   fu w y3 y4) w 3 [some (.ref (E.1 7 16)), some (.ref (E.1 n 0)), some (.ref (E.1 7 c3)), some (.int (y3)), some (.int (y4)), none, none] []
  | 0, _, _, _ => gm_none
  | fu + 1, w, y3, y4 => kb_X1_fill_3 n c3 hn hc3   (h_X1_fill_3 n c3   fu)  (fun w y3 y4 => k_X1_fill_3 n c3 hn hc3    fu w y3 y4) w y3 y4
noncomputable def f_X1_fill (n : Nat) (c3 : Nat) (w : Wd) (x3 : Int32) : Option (Unit × Wd) :=
  h_X1_fill_3 n c3 FU w x3 0
set_option maxRecDepth 100000 in
set_option maxHeartbeats 4000000 in
theorem t_X1_fill {l : Launch} {E : En} (n : Nat) (c3 : Nat) (hn : n < 7) (hc3 : AI E 7 c3 64) (w : Wd) (x3 : Int32) : ∀ q, f_X1_fill  n c3 w x3 = some q → Mt l E yX1_fill cX1_fill 7 none (rmk 4) [.ref (E.1 7 16), .ref (E.1 n 0), .ref (E.1 7 c3), .int (x3)] w (eV q.1) q.2 := by
  refine Mt.of [some (.ref (E.1 7 16)), some (.ref (E.1 n 0)), some (.ref (E.1 7 c3)), some (.int (x3)), none, none, none] (plainFor_of_name pn_X1) rfl (Nat.le_of_ble_eq_true rfl) rfl ?_
  unfold f_X1_fill
  refine gm_iconst (v := 0) dX1_fill_0 (by decide) ?_
  refine gm_istore (lv' := [some (.ref (E.1 7 16)), some (.ref (E.1 n 0)), some (.ref (E.1 7 c3)), some (.int (x3)), some (.int (0)), none, none]) dX1_fill_1 (by decide) rfl rfl ?_
  exact gm_weak (lsub_s (lsub_s (lsub_s (lsub_s (lsub_s (lsub_n (lsub_n lsub_0))))))) (k_X1_fill_3 n c3 hn hc3 FU w x3 0)

noncomputable def j_X1_search_50 (n : Nat) (w : Wd) (y2 : Int32) : Option (Int32 × Wd) :=
  (f_X1_arrive 10 n w y2 0 (-9) 0).bind fun q5 =>
  if ((q5.2) 7 16 3) = 1000000 then
    some ((-9), q5.2)
  else
    some ((q5.2) 7 16 3, q5.2)
set_option maxRecDepth 100000 in
set_option maxHeartbeats 4000000 in
theorem k_X1_search_50 {l : Launch} {E : En} (n : Nat) (hn : n < 7) (w : Wd) (y2 : Int32) : Gm l E cX1_search 5 RX1 (some .int) (rmk (31)) eI (j_X1_search_50 n   w y2) w 50 [some (.ref (E.1 7 16)), some (.ref (E.1 n 0)), some (.int (y2)), none, none] [] := by
  unfold j_X1_search_50
  refine gm_aload_n dX1_search_50 rfl rfl ?_
  refine gm_aload_n dX1_search_51 rfl rfl ?_
  refine gm_iload_n dX1_search_52 rfl rfl ?_
  refine gm_iconst (v := 0) dX1_search_53 (by decide) ?_
  refine gm_bipush (v := (-9)) dX1_search_54 (by decide) ?_
  refine gm_iconst (v := 0) dX1_search_56 (by decide) ?_
  refine gm_callVv (As := [.ref (E.1 n 0), .int (y2), .int (0), .int ((-9)), .int (0)]) dX1_search_57 (t_X1_arrive 10 n hn w y2 0 (-9) 0) ce_7_16 rfl cy_X1_arrive tb_797 rfl rfl (rm_ok (by decide) (by decide)) (Nat.le_of_ble_eq_true rfl) (fun q5 => ?_)
  refine gm_aload_n dX1_search_60 rfl rfl ?_
  refine gm_get dX1_search_61 ce_7_16 rfl inX1 3 (by decide) tb_288 rfl rfl ?_
  refine gm_ldc (v := 1000000) dX1_search_64 tb_284 ?_
  refine gm_icmp_ne (tgt := 74) dX1_search_66 (by decide) ?_ ?_
  · refine gm_aload_n dX1_search_74 rfl rfl ?_
    refine gm_get dX1_search_75 ce_7_16 rfl inX1 3 (by decide) tb_288 rfl rfl ?_
    exact gm_iret dX1_search_78
  · refine gm_bipush (v := (-9)) dX1_search_69 (by decide) ?_
    refine gm_goto (tgt := 78) dX1_search_71 (by decide) ?_
    exact gm_iret dX1_search_78
noncomputable def f_X1_search (n : Nat) (w : Wd) (x2 : Int32) (x3 : Int32) : Option (Int32 × Wd) :=
  letw (wup w 7 16 2 x3) fun w1 =>
  letw (wup w1 7 16 3 1000000) fun w2 =>
  (f_X1_fill n 17 w2 (-9)).bind fun q3 =>
  (f_X5_switchOf n q3.2 x3).bind fun q4 =>
  if q4.1 = (-9) then
    j_X1_search_50 n q4.2 x2
  else
    (f_X1_fill n 18 q4.2 q4.1).bind fun q6 =>
    j_X1_search_50 n q6.2 x2
set_option maxRecDepth 100000 in
set_option maxHeartbeats 4000000 in
theorem t_X1_search {l : Launch} {E : En} (n : Nat) (hn : n < 7) (w : Wd) (x2 : Int32) (x3 : Int32) : ∀ q, f_X1_search  n w x2 x3 = some q → Mt l E yX1_search cX1_search 5 (some .int) (rmk 31) [.ref (E.1 7 16), .ref (E.1 n 0), .int (x2), .int (x3)] w (eI q.1) q.2 := by
  refine Mt.of [some (.ref (E.1 7 16)), some (.ref (E.1 n 0)), some (.int (x2)), some (.int (x3)), none] (plainFor_of_name pn_X1) rfl (Nat.le_of_ble_eq_true rfl) rfl ?_
  unfold f_X1_search
  refine gm_aload_n dX1_search_0 rfl rfl ?_
  refine gm_iload_n dX1_search_1 rfl rfl ?_
  refine gm_put dX1_search_2 ce_7_16 rfl inX1 tyX1 tyX1_ok nmX1 2 (by decide) tb_287 rfl rfl (by decide +kernel) (fun _ => rfl) (fun _ => rfl) (fun w1 => ?_)
  refine gm_aload_n dX1_search_5 rfl rfl ?_
  refine gm_ldc (v := 1000000) dX1_search_6 tb_284 ?_
  refine gm_put dX1_search_8 ce_7_16 rfl inX1 tyX1 tyX1_ok nmX1 3 (by decide) tb_288 rfl rfl (by decide +kernel) (fun _ => rfl) (fun _ => rfl) (fun w2 => ?_)
  refine gm_aload_n dX1_search_11 rfl rfl ?_
  refine gm_aload_n dX1_search_12 rfl rfl ?_
  refine gm_aload_n dX1_search_13 rfl rfl ?_
  refine gm_get dX1_search_14 ce_7_16 rfl inX1 0 (by decide) tb_285 rfl rfl ?_
  refine gm_bipush (v := (-9)) dX1_search_17 (by decide) ?_
  refine gm_callVv (As := [.ref (E.1 n 0), .ref (E.1 7 17), .int ((-9))]) dX1_search_19 (t_X1_fill n 17 hn ce_7_17 w2 (-9)) ce_7_16 rfl cy_X1_fill tb_773 rfl rfl (rm_ok (by decide) (by decide)) (Nat.le_of_ble_eq_true rfl) (fun q3 => ?_)
  refine gm_aload_n dX1_search_22 rfl rfl ?_
  refine gm_callVk (As := []) dX1_search_23 (tk_X4_portRows n hn q3.2) (ce_n_0 (n := n) hn) rfl cy_X4_portRows tb_795 rfl rfl (rm_ok (by decide) (by decide)) (Nat.le_of_ble_eq_true rfl) ?_
  refine gm_iload_n dX1_search_26 rfl rfl ?_
  refine gm_callVi (As := [.int (x3)]) dX1_search_27 (t_X5_switchOf n hn q3.2 x3) (ce_n_10 (n := n) hn) rfl cy_X5_switchOf tb_796 rfl rfl (rm_ok (by decide) (by decide)) (Nat.le_of_ble_eq_true rfl) (fun q4 => ?_)
  refine gm_istore (lv' := [some (.ref (E.1 7 16)), some (.ref (E.1 n 0)), some (.int (x2)), some (.int (x3)), some (.int (q4.1))]) dX1_search_30 (by decide) rfl rfl ?_
  refine gm_iload dX1_search_32 rfl ?_
  refine gm_bipush (v := (-9)) dX1_search_34 (by decide) ?_
  refine gm_icmp_eq (tgt := 50) dX1_search_36 (by decide) ?_ ?_
  · exact gm_weak (lsub_s (lsub_s (lsub_s (lsub_n (lsub_n lsub_0))))) (k_X1_search_50 n hn q4.2 x2)
  · refine gm_aload_n dX1_search_39 rfl rfl ?_
    refine gm_aload_n dX1_search_40 rfl rfl ?_
    refine gm_aload_n dX1_search_41 rfl rfl ?_
    refine gm_get dX1_search_42 ce_7_16 rfl inX1 1 (by decide) tb_286 rfl rfl ?_
    refine gm_iload dX1_search_45 rfl ?_
    refine gm_callVv (As := [.ref (E.1 n 0), .ref (E.1 7 18), .int (q4.1)]) dX1_search_47 (t_X1_fill n 18 hn ce_7_18 q4.2 q4.1) ce_7_16 rfl cy_X1_fill tb_773 rfl rfl (rm_ok (by decide) (by decide)) (Nat.le_of_ble_eq_true rfl) (fun q6 => ?_)
    exact gm_weak (lsub_s (lsub_s (lsub_s (lsub_n (lsub_n lsub_0))))) (k_X1_search_50 n hn q6.2 x2)
