theorem tries_head {wm : Wd} {d a K i A r : Nat} {mk : Option Nat} {ls : Nat → Nat} {y : Int32} (hF : Fr wm d a mk K ls i) (ed : wm 8 0 12 = nI d) (hd : d < 8) (hi : i < K) (hK : K ≤ 40) (hr : ls i = r) (eA : wm 8 0 15 = nI A) (hA : A < 30) : f_X10_tries wm y = (f_X10_serves (wm4 wm A r d) (nI r)).bind fun q5 =>
    if q5.1 = 0 then
      (f_X10_of q5.2 (nI r) 7).bind fun q6 =>
      (f_X10_of q6.2 (nI r) 6).bind fun q7 =>
      if q6.1 = q7.1 then
        some (2, q7.2)
      else
        if ib ((30 + (8 * nI r)) + 7) 640 = true then
        if ib ((30 + (8 * nI r)) + 7) 640 = true then
        letw (wup q7.2 8 1 (Int32.toNatClampNeg ((30 + (8 * nI r)) + 7)) ((q7.2 8 1 (Int32.toNatClampNeg ((30 + (8 * nI r)) + 7))) + 1)) fun w8 =>
        leti (w8 8 0 12) fun u9 =>
        (f_X10_of w8 (nI r) 2).bind fun q10 =>
        if ib ((q10.2) 8 0 12) 8 = true then
        (f_X10_arrives q10.2 q10.1 y (q10.2 8 6 (Int32.toNatClampNeg ((q10.2) 8 0 12)))).bind fun q11 =>
        if q11.1 = 0 then
          (f_X10_isBusy q11.2 y).bind fun q13 =>
          if q13.1 = 0 then
            j_X10_tries_144 q13.2 (nI r) q11.1
          else
            j_X10_tries_144 q13.2 (nI r) 5
        else
          j_X10_tries_144 q11.2 (nI r) q11.1
        else none
        else none
        else none
    else
      (f_X10_isBusy q5.2 y).bind fun q14 =>
      if q14.1 = 0 then
        some (0, q14.2)
      else
        some (5, q14.2) := by
  obtain ⟨f5, f6, f8, f9, f7⟩ := hF
  have e15 : wup wm 8 10 d (nI A) 8 0 15 = nI A := by rw [wup_at, if_neg (by omega)]; exact eA
  have e15b : wup (wup wm 8 10 d (nI A)) 8 11 A (nI r) 8 0 15 = nI A := by rw [wup_at, if_neg (by omega)]; exact e15
  rw [f_X10_tries, atHand_spec (i := i) (r := r) hd (by omega) ed f9 (by rw [f7 i hi, hr]), Option.bind_some]
  dsimp only
  rw [if_pos (by rw [ed]; exact ibT hd (by omega)), ed, nI_clamp (by omega), eA, letw, if_pos (by rw [e15]; exact ibT hA (by omega)), e15, nI_clamp (by omega), letw, e15b, letw, show (nI A + 1 : Int32) = nI (A + 1) from nI_add A 1]
  rfl
theorem tries_serve {wm : Wd} {d a K i A r o n bz : Nat} {mk : Option Nat} {ls : Nat → Nat} {v0 : Nat → Int32} (hF : Fr wm d a mk K ls i) (ed : wm 8 0 12 = nI d) (hd : d < 8) (hi : i < K) (hK : K ≤ 40) (hr : ls i = r) (eA : wm 8 0 15 = nI A) (hA : A < 30) (hr40 : r < 40) (ho : o < 8) (q8 : wm 8 1 (30 + 8 * r) = nI o) (q10 : wm 8 1 (30 + 8 * r + 2) = nI o) (hbz : bz = 0 ∨ bz = 5) (hlow : ∀ j, 420 ≤ j → j < 560 → wm 8 1 j = v0 j) (hb2 : ∀ w : Wd, (∀ j, 420 ≤ j → j < 560 → w 8 1 j = v0 j) → f_X10_isBusy w (nI n) = some (if bz = 5 then nI 1 else nI 0, w)) : f_X10_tries wm (nI n) = some (nI bz, wm4 wm A r d) := by
  rw [tries_head hF ed hd hi hK hr eA hA, mServes hr40 ho ho (by rw [wm4_row]; exact q8) (by rw [wm4_row]; exact q10), Option.bind_some]
  dsimp only
  rw [if_pos rfl, if_neg (by decide), hb2 _ (fun j h1 h2 => by rw [wm4_row]; exact hlow j h1 h2), Option.bind_some]
  dsimp only
  rcases hbz with rfl | rfl
  · rw [if_pos (by decide)]; rfl
  · rw [if_neg (by decide)]; rfl
theorem tries_full {wm : Wd} {d a K i A r o x n : Nat} {mk : Option Nat} {ls : Nat → Nat} (hF : Fr wm d a mk K ls i) (ed : wm 8 0 12 = nI d) (hd : d < 8) (hi : i < K) (hK : K ≤ 40) (hr : ls i = r) (eA : wm 8 0 15 = nI A) (hA : A < 30) (hr40 : r < 40) (ho : o < 8) (hx : x < 8) (hox : o ≠ x) (q8 : wm 8 1 (30 + 8 * r) = nI o) (q10 : wm 8 1 (30 + 8 * r + 2) = nI x) (hf : wm 8 1 (30 + 8 * r + 7) = wm 8 1 (30 + 8 * r + 6)) : f_X10_tries wm (nI n) = some (nI 2, wm4 wm A r d) := by
  have o7 := of_spec (w := wm4 wm A r d) (r := r) (k := 7) hr40 (by omega)
  have o6 := of_spec (w := wm4 wm A r d) (r := r) (k := 6) hr40 (by omega)
  rw [wm4_row] at o7 o6
  rw [tries_head hF ed hd hi hK hr eA hA, mServes hr40 ho hx (by rw [wm4_row]; exact q8) (by rw [wm4_row]; exact q10), Option.bind_some]
  dsimp only
  rw [if_neg hox, if_pos (by decide), show f_X10_of (wm4 wm A r d) (nI r) 7 = f_X10_of (wm4 wm A r d) (nI r) (nI 7) from rfl, o7, Option.bind_some]
  dsimp only
  rw [show f_X10_of (wm4 wm A r d) (nI r) 6 = f_X10_of (wm4 wm A r d) (nI r) (nI 6) from rfl, o6, Option.bind_some]
  dsimp only
  rw [if_pos hf]; rfl
theorem tries_go {wm : Wd} {d a K i A r o x n : Nat} {mk : Option Nat} {ls : Nat → Nat} (hF : Fr wm d a mk K ls i) (ed : wm 8 0 12 = nI d) (hd : d < 8) (hi : i < K) (hK : K ≤ 40) (hr : ls i = r) (eA : wm 8 0 15 = nI A) (hA : A < 30) (hr40 : r < 40) (ho : o < 8) (hx : x < 8) (hox : o ≠ x) (q8 : wm 8 1 (30 + 8 * r) = nI o) (q10 : wm 8 1 (30 + 8 * r + 2) = nI x) (hf : ¬ wm 8 1 (30 + 8 * r + 7) = wm 8 1 (30 + 8 * r + 6)) : f_X10_tries wm (nI n) = (f_X10_arrives (w8 wm A r d) (nI x) (nI n) (mM mk)).bind fun q11 =>
        if q11.1 = 0 then
          (f_X10_isBusy q11.2 (nI n)).bind fun q13 =>
          if q13.1 = 0 then
            j_X10_tries_144 q13.2 (nI r) q11.1
          else
            j_X10_tries_144 q13.2 (nI r) 5
        else
          j_X10_tries_144 q11.2 (nI r) q11.1 := by
  have o7 := of_spec (w := wm4 wm A r d) (r := r) (k := 7) hr40 (by omega)
  have o6 := of_spec (w := wm4 wm A r d) (r := r) (k := 6) hr40 (by omega)
  rw [wm4_row] at o7 o6
  have o2 := of_spec (w := w8 wm A r d) (r := r) (k := 2) hr40 (by omega)
  rw [w8_row, upd_ne (by omega), q10] at o2
  have e12 : w8 wm A r d 8 0 12 = nI d := by rw [w8_ne (by omega), wm4_12]; exact ed
  have e6 : w8 wm A r d 8 6 d = mM mk := by rw [w8_ne (by omega), wm4_c (by omega)]; exact hF.2.1
  rw [tries_head hF ed hd hi hK hr eA hA, mServes hr40 ho hx (by rw [wm4_row]; exact q8) (by rw [wm4_row]; exact q10), Option.bind_some]
  dsimp only
  rw [if_neg hox, if_pos (by decide), show f_X10_of (wm4 wm A r d) (nI r) 7 = f_X10_of (wm4 wm A r d) (nI r) (nI 7) from rfl, o7, Option.bind_some]
  dsimp only
  rw [show f_X10_of (wm4 wm A r d) (nI r) 6 = f_X10_of (wm4 wm A r d) (nI r) (nI 6) from rfl, o6, Option.bind_some]
  dsimp only
  rw [if_neg hf, show (30 + 8 * nI r + 7 : Int32) = nI (30 + 8 * r + 7) from by rw [lit, lit, lit, nI_mul, nI_add, nI_add], if_pos (ibT (by omega) (by omega)), if_pos (ibT (by omega) (by omega)), nI_clamp (by omega), letw, leti, wm4_row]
  show (f_X10_of (w8 wm A r d) (nI r) (nI 2)).bind _ = _
  rw [o2, Option.bind_some]
  dsimp only
  rw [if_pos (by rw [e12]; exact ibT hd (by omega)), e12, nI_clamp (by omega), e6]
theorem tryR_head {wc : Wd} {d A r M : Nat} {ra : Nat → Wd → Int32 → Int32 → Int32 → Option (Int32 × Wd)} {y : Int32} (hM : M < 256) (hp : pop M = d) (hd : d < 6) (eA : wc 7 12 2 = nI A) (hA : A < 30) : f_X3_tryRoute ra 0 wc (nI r) (nI M) y = (f_X6_serves 0 (wc3 wc A r d) (nI r)).bind fun q4 =>
      if q4.1 = 0 then
        (f_X6_hasFreeLine 0 q4.2 (nI r)).bind fun q5 =>
        if q5.1 = 0 then
          j_X3_tryRoute_112 0 ra q5.2 (nI A) 2
        else
          (f_X6_nextOf 0 q5.2 (nI r)).bind fun q7 =>
          (f_X6_switchOf 0 q7.2 (nI r)).bind fun q8 =>
          (ra 0 q8.2 q7.1 (nI M ||| (1 <<< (q8.1 &&& 31))) y).bind fun q9 =>
          j_X3_tryRoute_112 0 ra q9.2 (nI A) q9.1
      else
        letw (wup q4.2 7 11 2 (nI d + 1)) fun w10 =>
        leti (w10 7 11 5) fun u11 =>
        j_X3_tryRoute_112 0 ra w10 (nI A) u11 := by
  have e1 : wup wc 7 13 A (nI r) 7 12 2 = nI A := by rw [wup_at, if_neg (by omega)]; exact eA
  have hbg : f_X8_begin wc (nI r) = some (nI A, wup (wup wc 7 13 A (nI r)) 7 12 2 (nI (A + 1))) := by
    rw [f_X8_begin, eA, if_pos (by rw [lit, nI_ltI (by omega) (by omega)]; exact hA), if_pos (ibT (by omega) (by omega)), nI_clamp (by omega), letw, e1, letw, wup_at, if_pos ⟨rfl, rfl, rfl⟩, show (nI A + 1 : Int32) = nI (A + 1) from nI_add A 1, show (1 : Int32) = nI 1 from rfl, nI_sub (by omega), Nat.add_sub_cancel]
  rw [f_X3_tryRoute, leti, bc_spec wc M hM, hp, if_pos (by rw [lit, nI_ltI (by omega) (by omega)]; exact hd), hbg, Option.bind_some]
  dsimp only
  rw [if_neg (nI_ne_m9 (by omega)), if_pos (ibT (by omega) (by omega)), nI_clamp (by omega), letw]
  rfl
theorem fin112 {wc : Wd} {A A' : Nat} {y : Int32} {ra : Nat → Wd → Int32 → Int32 → Int32 → Option (Int32 × Wd)} (hA : A < A') (hA' : A' ≤ 30) (e : wc 7 12 2 = nI A') : j_X3_tryRoute_112 0 ra wc (nI A) y = some (y, wup wc 7 14 A y) := by
  rw [j_X3_tryRoute_112, finish_spec hA hA' e, Option.bind_some]
theorem wc3_12 {wc : Wd} {A r d : Nat} : wc3 wc A r d 7 12 2 = nI (A + 1) := by
  unfold wc3; rw [wup_at, if_neg (by omega), wup_at, if_pos ⟨rfl, rfl, rfl⟩]
theorem fin_Sk {wc : Wd} {d A : Nat} {y : Int32} : Sk d wc (wup wc 7 14 A y) := ⟨fun g c h => by rw [wup_row, if_neg (by omega)], fun c h => by rw [wup_row, if_neg (by omega)], fun i h => by rw [wup_at, if_neg (by omega)], fun e h => by rw [wup_at, if_neg (by omega)]⟩
theorem len_Sk {wc : Wd} {d : Nat} {y : Int32} : Sk d wc (wup wc 7 11 2 y) := ⟨fun g c h => by rw [wup_row, if_neg (by omega)], fun c h => by rw [wup_row, if_neg (by omega)], fun i h => by rw [wup_at, if_neg (by omega)], fun e h => by rw [wup_at, if_neg (by omega)]⟩
/-- row + 1 - 1 -/
theorem row_back {v : Nat → Int32} {j : Nat} : upd (upd v j (v j + nI 1)) j (v j + nI 1 - nI 1) = v := by
  funext i
  rw [upd_at, upd_at]
  by_cases h : i = j
  · rw [if_pos h, Int32.add_sub_cancel, h]
  · rw [if_neg h, if_neg h]
theorem code_Sm {wm : Wd} {d A : Nat} {y : Int32} : Sm d wm (wup wm 8 12 A y) := ⟨fun g c h => by rw [wup_row, if_neg (by omega)], fun c h => by rw [wup_row, if_neg (by omega)], fun i _ _ _ => by rw [wup_at, if_neg (by omega)], fun e h c hc => by rw [wup_at, if_neg (by omega)], fun j h => by rw [wup_at, if_neg (by omega)]⟩
theorem row_Sm {wm : Wd} {d j : Nat} {y : Int32} : Sm d wm (wup wm 8 1 j y) := ⟨fun g c h => by rw [wup_row, if_neg (by omega)], fun c h => by rw [wup_row, if_neg (by omega)], fun i _ _ _ => by rw [wup_at, if_neg (by omega)], fun e h c hc => by rw [wup_at, if_neg (by omega)], fun j h => by rw [wup_at, if_neg (by omega)]⟩
theorem dep_Sm {wm : Wd} {d : Nat} {y : Int32} : Sm d wm (wup wm 8 0 12 y) := ⟨fun g c h => by rw [wup_row, if_neg (by omega)], fun c h => by rw [wup_row, if_neg (by omega)], fun i _ _ _ => by rw [wup_at, if_neg (by omega)], fun e h c hc => by rw [wup_at, if_neg (by omega)], fun j h => by rw [wup_at, if_neg (by omega)]⟩
theorem j144_pos {wm : Wd} {r c : Nat} (hr : r < 40) (hc : 1 ≤ c) (hc6 : c ≤ 6) : j_X10_tries_144 wm (nI r) (nI c) = some (nI c, wup wm 8 1 (30 + 8 * r + 7) (wm 8 1 (30 + 8 * r + 7) - nI 1)) := by
  rw [j_X10_tries_144, if_neg (by rw [show (0 : Int32) = nI 0 from rfl, nI_leI (by omega) (by omega)]; omega), show (30 + 8 * nI r + 7 : Int32) = nI (30 + 8 * r + 7) from by rw [lit, lit, lit, nI_mul, nI_add, nI_add], if_pos (ibT (by omega) (by omega)), if_pos (ibT (by omega) (by omega)), nI_clamp (by omega), letw]; rfl
