theorem cmd_r {L p c : Nat} {ch : Nat → Nat} {wc wm : Wd} (ho : TxOK L ch) (hc : c < 27) (h1 : Tx L ch p wc) (h2 : Ty L ch p wm) (e21 : wm 8 0 21 = nI c) (k1 : wc 7 5 c = nI 114) (k2 : wm 8 15 c = nI 114) : Out L ch c p wc wm (f_X7_readRoute wc (nI c)) ((f_X10_reads wm 0 1 1 1).bind fun q4 =>
      if q4.1 = 0 then
        j_X10_readsCommand_149 q4.2 0
      else
        (f_X10_takes q4.2 62).bind fun q10 =>
        if q10.1 = 0 then
          j_X10_readsCommand_149 q10.2 0
        else
          (f_X10_reads q10.2 1 1 1 1).bind fun q11 =>
          if q11.1 = 0 then
            j_X10_readsCommand_149 q11.2 0
          else
            (f_X10_takes q11.2 58).bind fun q12 =>
            if q12.1 = 0 then
              j_X10_readsCommand_149 q12.2 0
            else
              j_X10_readsCommand_149 q12.2 1) := by
  have hib : ib (nI c) 27 = true := ibT (by omega) (by omega)
  have hpL := h1.2.2.2
  have j0 : ∀ w, j_X10_readsCommand_149 w 0 = some (nI 0, w) := fun w => by rw [j_X10_readsCommand_149, if_pos rfl]; rfl
  have hs := sg_le (p := p) ho
  rw [f_X7_readRoute, readSwitch_c ho h1 hc, show f_X10_reads wm 0 1 1 1 = f_X10_reads wm (nI 0) 1 1 1 from rfl, read1_m ho h2 hc (by omega) e21]
  by_cases d1 : dgp L ch p
  rotate_left
  · rw [if_neg d1, if_neg d1, Option.bind_some, Option.bind_some]
    dsimp only
    rw [if_pos (by decide), if_pos (by decide), j0]
    exact out_F rfl rfl (Nat.le_refl _) (h1.row (by omega)) (h2.row (by omega)) ((FC.refl _ _).row (by omega) (by omega)) ((FM.refl _ _).row (by omega))
  have l1 := sg_lt (L := L) (ch := ch) (p := p) (by omega)
  rw [if_pos d1, if_pos d1, Option.bind_some, Option.bind_some]
  dsimp only
  have a1 := (h1.at (p' := p + 1) (by omega)).row (r := 6) (i := c) (v := nI (sg L ch p - 48)) (by omega)
  have a2 := (h2.at (p' := p + 1) (by omega)).row (r := 16) (i := 5 * c + 0) (v := nI (sg L ch p - 48)) (by omega)
  have f1 := (FC.refl c wc).at (v := nI (p + 1)) |>.row (r := 6) (v := nI (sg L ch p - 48)) (by omega) (by omega)
  have f2 := (FM.refl c wm).at (v := nI (p + 1)) |>.row (wh := 0) (v := nI (sg L ch p - 48)) (by omega)
  rw [if_neg (by decide), if_neg (by decide), show (62 : Int32) = nI 62 from rfl, skip_c ho a1 (by omega), takes_m ho a2 (by omega) (by omega)]
  by_cases d2 : sg L ch (p + 1) = 62
  rotate_left
  · rw [if_neg d2, if_neg d2, Option.bind_some, Option.bind_some]
    dsimp only
    rw [if_pos rfl, if_pos rfl, j0]
    exact out_F rfl rfl (by omega) a1 a2 f1 f2
  have l2 := sg_lt (L := L) (ch := ch) (p := p + 1) (by omega)
  rw [if_pos d2, if_pos d2, Option.bind_some, Option.bind_some]
  dsimp only
  have b1 := a1.at (p' := p + 2) (by omega)
  have b2 := a2.at (p' := p + 2) (by omega)
  have g1 := f1.at (v := nI (p + 2))
  have g2 := f2.at (v := nI (p + 2))
  have hs2 := sg_le (p := p + 2) ho
  rw [show p + 1 + 1 = p + 2 from rfl, if_neg (by decide), if_neg (by decide), readDigit_c ho b1, show ∀ w, f_X10_reads w 1 1 1 1 = f_X10_reads w (nI 1) 1 1 1 from fun _ => rfl, read1_m ho b2 hc (by omega) (by simp (disch := omega) only [wup_hit, wup_ne]; exact e21)]
  by_cases d3 : dgp L ch (p + 2)
  rotate_left
  · rw [if_neg d3, if_neg d3, Option.bind_some, Option.bind_some]
    dsimp only
    rw [if_pos hib, nI_clamp (by omega), letw, if_pos hib, if_pos (by rw [wup_hit ⟨rfl, rfl, rfl⟩]), if_pos (by decide), j0]
    exact out_F rfl rfl (by omega) (b1.row (by omega)) (b2.row (by omega)) (g1.row (by omega) (by omega)) (g2.row (by omega))
  have l3 := sg_lt (L := L) (ch := ch) (p := p + 2) (by omega)
  rw [if_pos d3, if_pos d3, Option.bind_some, Option.bind_some]
  dsimp only
  have c1 := (b1.at (p' := p + 3) (by omega)).row (r := 7) (i := c) (v := nI (sg L ch (p + 2) - 48)) (by omega)
  have c2 := (b2.at (p' := p + 3) (by omega)).row (r := 16) (i := 5 * c + 1) (v := nI (sg L ch (p + 2) - 48)) (by omega)
  have m1 := (g1.at (v := nI (p + 3))).row (r := 7) (v := nI (sg L ch (p + 2) - 48)) (by omega) (by omega)
  have m2 := (g2.at (v := nI (p + 3))).row (wh := 1) (v := nI (sg L ch (p + 2) - 48)) (by omega)
  rw [show p + 2 + 1 = p + 3 from rfl, if_pos hib, nI_clamp (by omega), letw, if_pos hib, if_neg (by rw [wup_hit ⟨rfl, rfl, rfl⟩]; exact nI_ne_m9 (by omega)), if_neg (by decide), show (58 : Int32) = nI 58 from rfl, skip_c ho c1 (by omega), takes_m ho c2 (by omega) (by omega)]
  by_cases d4 : sg L ch (p + 3) = 58
  rotate_left
  · rw [if_neg d4, if_neg d4, Option.bind_some, Option.bind_some]
    dsimp only
    rw [if_pos rfl, if_pos rfl, j0]
    exact out_F rfl rfl (by omega) c1 c2 m1 m2
  have l4 := sg_lt (L := L) (ch := ch) (p := p + 3) (by omega)
  rw [if_pos d4, if_pos d4, Option.bind_some, Option.bind_some]
  dsimp only
  rw [show p + 3 + 1 = p + 4 from rfl, if_neg (by decide), if_neg (by decide)]
  have n1 := c1.at (p' := p + 4) (by omega)
  have n2 := c2.at (p' := p + 4) (by omega)
  have o1 := m1.at (v := nI (p + 4))
  have o2 := m2.at (v := nI (p + 4))
  have v5 : (wup (wup (wup (wup (wup (wup wc 7 3 9 (nI (p + 1))) 7 6 c (nI (sg L ch p - 48))) 7 3 9 (nI (p + 2))) 7 3 9 (nI (p + 3))) 7 7 c (nI (sg L ch (p + 2) - 48))) 7 3 9 (nI (p + 4))) 7 5 c = nI 114 := by simp (disch := omega) only [wup_hit, wup_ne]; exact k1
  have v6 : (wup (wup (wup (wup (wup (wup wc 7 3 9 (nI (p + 1))) 7 6 c (nI (sg L ch p - 48))) 7 3 9 (nI (p + 2))) 7 3 9 (nI (p + 3))) 7 7 c (nI (sg L ch (p + 2) - 48))) 7 3 9 (nI (p + 4))) 7 6 c = nI (sg L ch p - 48) := by simp (disch := omega) only [wup_hit, wup_ne]
  have v7 : (wup (wup (wup (wup (wup (wup wc 7 3 9 (nI (p + 1))) 7 6 c (nI (sg L ch p - 48))) 7 3 9 (nI (p + 2))) 7 3 9 (nI (p + 3))) 7 7 c (nI (sg L ch (p + 2) - 48))) 7 3 9 (nI (p + 4))) 7 7 c = nI (sg L ch (p + 2) - 48) := by simp (disch := omega) only [wup_hit, wup_ne]
  have x21 : (wup (wup (wup (wup (wup (wup wm 8 0 20 (nI (p + 1))) 8 16 (5 * c + 0) (nI (sg L ch p - 48))) 8 0 20 (nI (p + 2))) 8 0 20 (nI (p + 3))) 8 16 (5 * c + 1) (nI (sg L ch (p + 2) - 48))) 8 0 20 (nI (p + 4))) 8 0 21 = nI c := by simp (disch := omega) only [wup_hit, wup_ne]; exact e21
  have x15 : (wup (wup (wup (wup (wup (wup wm 8 0 20 (nI (p + 1))) 8 16 (5 * c + 0) (nI (sg L ch p - 48))) 8 0 20 (nI (p + 2))) 8 0 20 (nI (p + 3))) 8 16 (5 * c + 1) (nI (sg L ch (p + 2) - 48))) 8 0 20 (nI (p + 4))) 8 15 c = nI 114 := by simp (disch := omega) only [wup_hit, wup_ne]; exact k2
  have x0 : (wup (wup (wup (wup (wup (wup wm 8 0 20 (nI (p + 1))) 8 16 (5 * c + 0) (nI (sg L ch p - 48))) 8 0 20 (nI (p + 2))) 8 0 20 (nI (p + 3))) 8 16 (5 * c + 1) (nI (sg L ch (p + 2) - 48))) 8 0 20 (nI (p + 4))) 8 16 (5 * c) = nI (sg L ch p - 48) := by simp (disch := omega) only [wup_hit, wup_ne]
  have x1 : (wup (wup (wup (wup (wup (wup wm 8 0 20 (nI (p + 1))) 8 16 (5 * c + 0) (nI (sg L ch p - 48))) 8 0 20 (nI (p + 2))) 8 0 20 (nI (p + 3))) 8 16 (5 * c + 1) (nI (sg L ch (p + 2) - 48))) 8 0 20 (nI (p + 4))) 8 16 (5 * c + 1) = nI (sg L ch (p + 2) - 48) := by simp (disch := omega) only [wup_hit, wup_ne]
  generalize wup (wup (wup (wup (wup (wup wc 7 3 9 (nI (p + 1))) 7 6 c (nI (sg L ch p - 48))) 7 3 9 (nI (p + 2))) 7 3 9 (nI (p + 3))) 7 7 c (nI (sg L ch (p + 2) - 48))) 7 3 9 (nI (p + 4)) = wc4 at *
  generalize wup (wup (wup (wup (wup (wup wm 8 0 20 (nI (p + 1))) 8 16 (5 * c + 0) (nI (sg L ch p - 48))) 8 0 20 (nI (p + 2))) 8 0 20 (nI (p + 3))) 8 16 (5 * c + 1) (nI (sg L ch (p + 2) - 48))) 8 0 20 (nI (p + 4)) = wm4 at *
  have hs4 := sg_le (p := p + 4) ho
  -- the number, on both sides
  have hnum : ∃ N Q, N ≤ 999999999 ∧ p + 4 ≤ Q ∧ Q ≤ L ∧ ((if nI (sg L ch (p + 4)) = 48 then j_X7_readRoute_75 wc4 (nI c) (nI c) 0 else (f_X7_readDigits wc4 9).bind fun q7 => j_X7_readRoute_75 q7.2 (nI c) (nI c) q7.1) = j_X7_readRoute_75 (wup wc4 7 3 9 (nI Q)) (nI c) (nI c) (nI N)) ∧ f_X10_reads wm4 2 0 9 0 = some (nI 1, wup (wup wm4 8 0 20 (nI Q)) 8 16 (5 * c + 2) (nI N)) := by
    have hr := reads0_m (M := 9) (wh := 2) (le := 0) ho (by omega) (by omega) hc (by omega) (by omega) n2 x21
    by_cases h48 : sg L ch (p + 4) = 48
    · refine ⟨0, p + 4, by omega, by omega, by omega, ?_, ?_⟩
      · rw [if_pos (by rw [h48]; rfl), ← n1.2.2.1, wup_self]; rfl
      · rw [show f_X10_reads wm4 2 0 9 0 = f_X10_reads wm4 (nI 2) (nI 0) (nI 9) 0 from rfl, hr, if_pos h48, if_neg (by omega), ← n2.2.2.1, wup_self]
    · obtain ⟨r1, r2, r3, r4⟩ := rd_bd (L := L) (ch := ch) 9 (p + 4) 0 0 (by omega) (by omega)
      refine ⟨(rd L ch 9 (p + 4) 0).1, (rd L ch 9 (p + 4) 0).2, by omega, r3, r4, ?_, ?_⟩
      · rw [if_neg (by rw [lit, nI_eq (by omega) (by omega)]; exact h48), show (9 : Int32) = nI 9 from rfl, readDigits_c ho (by omega) n1, Option.bind_some]
      · rw [show f_X10_reads wm4 2 0 9 0 = f_X10_reads wm4 (nI 2) (nI 0) (nI 9) 0 from rfl, hr, if_neg h48, if_neg (by omega)]
  obtain ⟨N, Q, hN, hQ1, hQ2, hc5, hm5⟩ := hnum
  rw [cSign ho n1, Option.bind_some]
  dsimp only
  rw [hc5, j_X10_readsCommand_149, if_neg (by decide), hm5, Option.bind_some, j_X7_readRoute_75, if_pos hib, nI_clamp (by omega), letw]
  dsimp only
  have q1 := (n1.at hQ2).row (r := 8) (i := c) (v := nI N) (by omega)
  have q2 := (n2.at hQ2).row (r := 16) (i := 5 * c + 2) (v := nI N) (by omega)
  have s1 := (o1.at (v := nI Q)).row (r := 8) (v := nI N) (by omega) (by omega)
  have s2 := (o2.at (v := nI Q)).row (wh := 2) (v := nI N) (by omega)
  rw [if_neg (by decide), show (64 : Int32) = nI 64 from rfl, skip_c ho q1 (by omega), takes_m ho q2 (by omega) (by omega)]
  by_cases d5 : sg L ch Q = 64
  rotate_left
  · rw [if_neg d5, if_neg d5, Option.bind_some, Option.bind_some]
    dsimp only
    rw [if_pos rfl, if_pos rfl]
    exact out_F rfl rfl (by omega) q1 q2 s1 s2
  have l5 := sg_lt (L := L) (ch := ch) (p := Q) (by omega)
  rw [if_pos d5, if_pos d5, Option.bind_some, Option.bind_some]
  dsimp only
  have t1 := q1.at (p' := Q + 1) (by omega)
  have t2 := q2.at (p' := Q + 1) (by omega)
  have u1 := s1.at (v := nI (Q + 1))
  have u2 := s2.at (v := nI (Q + 1))
  have w5 : (wup (wup (wup wc4 7 3 9 (nI Q)) 7 8 c (nI N)) 7 3 9 (nI (Q + 1))) 7 5 c = nI 114 := by simp (disch := omega) only [wup_hit, wup_ne]; exact v5
  have w6 : (wup (wup (wup wc4 7 3 9 (nI Q)) 7 8 c (nI N)) 7 3 9 (nI (Q + 1))) 7 6 c = nI (sg L ch p - 48) := by simp (disch := omega) only [wup_hit, wup_ne]; exact v6
  have w7 : (wup (wup (wup wc4 7 3 9 (nI Q)) 7 8 c (nI N)) 7 3 9 (nI (Q + 1))) 7 7 c = nI (sg L ch (p + 2) - 48) := by simp (disch := omega) only [wup_hit, wup_ne]; exact v7
  have w8 : (wup (wup (wup wc4 7 3 9 (nI Q)) 7 8 c (nI N)) 7 3 9 (nI (Q + 1))) 7 8 c = nI N := by simp (disch := omega) only [wup_hit, wup_ne]
  have y21 : (wup (wup (wup wm4 8 0 20 (nI Q)) 8 16 (5 * c + 2) (nI N)) 8 0 20 (nI (Q + 1))) 8 0 21 = nI c := by simp (disch := omega) only [wup_hit, wup_ne]; exact x21
  have y15 : (wup (wup (wup wm4 8 0 20 (nI Q)) 8 16 (5 * c + 2) (nI N)) 8 0 20 (nI (Q + 1))) 8 15 c = nI 114 := by simp (disch := omega) only [wup_hit, wup_ne]; exact x15
  have y0 : (wup (wup (wup wm4 8 0 20 (nI Q)) 8 16 (5 * c + 2) (nI N)) 8 0 20 (nI (Q + 1))) 8 16 (5 * c) = nI (sg L ch p - 48) := by simp (disch := omega) only [wup_hit, wup_ne]; exact x0
  have y1 : (wup (wup (wup wm4 8 0 20 (nI Q)) 8 16 (5 * c + 2) (nI N)) 8 0 20 (nI (Q + 1))) 8 16 (5 * c + 1) = nI (sg L ch (p + 2) - 48) := by simp (disch := omega) only [wup_hit, wup_ne]; exact x1
  have y2 : (wup (wup (wup wm4 8 0 20 (nI Q)) 8 16 (5 * c + 2) (nI N)) 8 0 20 (nI (Q + 1))) 8 16 (5 * c + 2) = nI N := by simp (disch := omega) only [wup_hit, wup_ne]
  generalize wup (wup (wup wc4 7 3 9 (nI Q)) 7 8 c (nI N)) 7 3 9 (nI (Q + 1)) = wc5 at *
  generalize wup (wup (wup wm4 8 0 20 (nI Q)) 8 16 (5 * c + 2) (nI N)) 8 0 20 (nI (Q + 1)) = wm5 at *
  rw [if_neg (by decide), if_neg (by decide), digit_c ho t1, Option.bind_some, show ∀ w, f_X10_reads w 3 1 4 1 = f_X10_reads w (nI 3) (nI 1) (nI 4) 1 from fun _ => rfl, reads1_m ho (by omega) hc (by omega) (by omega) t2 y21, Option.bind_some]
  dsimp only
  by_cases d6 : dgp L ch (Q + 1)
  rotate_left
  · rw [if_neg d6, if_pos (by decide), rd_F d6]
    dsimp only
    rw [Nat.sub_self, if_pos (c := 0 < 1) (by omega), if_pos (by decide)]
    exact out_F rfl rfl (by omega) t1 ((t2.at (by omega)).row (by omega)) u1 (u2.at.row (by omega))
  have l6 := sg_lt (L := L) (ch := ch) (p := Q + 1) (by omega)
  obtain ⟨r1, r2, r3, r4⟩ := rd_bd (L := L) (ch := ch) 4 (Q + 1) 0 0 (by omega) (by omega)
  have r5 := (rd_bd (L := L) (ch := ch) 3 (Q + 1 + 1) (10 * 0 + (sg L ch (Q + 1) - 48)) 1 (by omega) (by omega)).2.2.1
  rw [← rd_T d6] at r5
  rw [if_pos d6, if_neg (by decide), show (4 : Int32) = nI 4 from rfl, readDigits_c ho (by omega) t1, Option.bind_some]
  dsimp only
  generalize (rd L ch 4 (Q + 1) 0).1 = K at *
  generalize (rd L ch 4 (Q + 1) 0).2 = Q6 at *
  rw [if_neg (c := Q6 - (Q + 1) < 1) (by omega), if_pos hib, letw, if_neg (by decide)]
  have A1 := (t1.at r4).row (r := 9) (i := c) (v := nI K) (by omega)
  have A2 := (t2.at r4).row (r := 16) (i := 5 * c + 3) (v := nI K) (by omega)
  have B1 := (u1.at (v := nI Q6)).row (r := 9) (v := nI K) (by omega) (by omega)
  have B2 := (u2.at (v := nI Q6)).row (wh := 3) (v := nI K) (by omega)
  rw [show (120 : Int32) = nI 120 from rfl, skip_c ho A1 (by omega), takes_m ho A2 (by omega) (by omega)]
  by_cases d7 : sg L ch Q6 = 120
  rotate_left
  · rw [if_neg d7, if_neg d7, Option.bind_some, Option.bind_some]
    dsimp only
    rw [if_pos rfl, if_pos rfl]
    exact out_F rfl rfl (by omega) A1 A2 B1 B2
  have l7 := sg_lt (L := L) (ch := ch) (p := Q6) (by omega)
  rw [if_pos d7, if_pos d7, Option.bind_some, Option.bind_some]
  dsimp only
  have C1 := A1.at (p' := Q6 + 1) (by omega)
  have C2 := A2.at (p' := Q6 + 1) (by omega)
  have D1 := B1.at (v := nI (Q6 + 1))
  have D2 := B2.at (v := nI (Q6 + 1))
  rw [if_neg (by decide), if_neg (by decide), digit_c ho C1, Option.bind_some, show ∀ w, f_X10_reads w (nI 4) 1 (nI 4) 1 = f_X10_reads w (nI 4) (nI 1) (nI 4) 1 from fun _ => rfl, reads1_m ho (by omega) hc (by omega) (by omega) C2 (by simp (disch := omega) only [wup_hit, wup_ne]; exact y21), Option.bind_some]
  dsimp only
  by_cases d8 : dgp L ch (Q6 + 1)
  rotate_left
  · rw [if_neg d8, if_pos (by decide), rd_F d8]
    dsimp only
    rw [Nat.sub_self, if_pos (c := 0 < 1) (by omega), if_pos (by decide)]
    exact out_F rfl rfl (by omega) C1 ((C2.at (by omega)).row (by omega)) D1 (D2.at.row (by omega))
  have l8 := sg_lt (L := L) (ch := ch) (p := Q6 + 1) (by omega)
  obtain ⟨R1, R2, R3, R4⟩ := rd_bd (L := L) (ch := ch) 4 (Q6 + 1) 0 0 (by omega) (by omega)
  have R5 := (rd_bd (L := L) (ch := ch) 3 (Q6 + 1 + 1) (10 * 0 + (sg L ch (Q6 + 1) - 48)) 1 (by omega) (by omega)).2.2.1
  rw [← rd_T d8] at R5
  rw [if_pos d8, if_neg (by decide), readDigits_c ho (by omega) C1, Option.bind_some]
  dsimp only
  generalize (rd L ch 4 (Q6 + 1) 0).1 = Z at *
  generalize (rd L ch 4 (Q6 + 1) 0).2 = Q8 at *
  rw [if_neg (c := Q8 - (Q6 + 1) < 1) (by omega), if_pos hib, letw, if_neg (by decide)]
  refine ⟨1, Q8, _, _, Or.inr rfl, rfl, rfl, by omega, (C1.at R4).row (by omega), (C2.at R4).row (by omega), D1.at.row (by omega) (by omega), D2.at.row (by omega), fun _ => ⟨by omega, Or.inl ⟨?_, ?_, sg L ch p - 48, sg L ch (p + 2) - 48, N, K, Z, by omega, by omega, hN, by omega, by omega, ?_, ?_, ?_, ?_, ?_, ?_, ?_, ?_, ?_, ?_⟩⟩⟩
  · simp (disch := omega) only [wup_hit, wup_ne]; exact w5
  · simp (disch := omega) only [wup_hit, wup_ne]; exact y15
  · simp (disch := omega) only [wup_hit, wup_ne]; exact w6
  · simp (disch := omega) only [wup_hit, wup_ne]; exact w7
  · simp (disch := omega) only [wup_hit, wup_ne]; exact w8
  · simp (disch := omega) only [wup_hit, wup_ne]
  · simp (disch := omega) only [wup_hit, wup_ne]
  · simp (disch := omega) only [wup_hit, wup_ne]; exact y0
  · simp (disch := omega) only [wup_hit, wup_ne]; exact y1
  · simp (disch := omega) only [wup_hit, wup_ne]; exact y2
  · simp (disch := omega) only [wup_hit, wup_ne]
  · simp (disch := omega) only [wup_hit, wup_ne]
