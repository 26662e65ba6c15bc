theorem command_both {L p c : Nat} {ch : Nat → Nat} {wc wm : Wd} (ho : TxOK L ch) (hc : c < 27) (h1 : Tx L ch p wc) (h2 : Ty L ch p wm) (e21 : wm 8 0 21 = nI c) : ∃ ok p' wc' wm', (ok = 0 ∨ ok = 1) ∧ f_X7_readCommand wc (nI c) = some (nI ok, wc') ∧ f_X10_readsCommand wm = some (nI ok, wm') ∧ p ≤ p' ∧ Tx L ch p' wc' ∧ Ty L ch p' wm' ∧ FC c wc wc' ∧ FM c wm wm' ∧ (ok = 1 → p + 2 ≤ p' ∧ Cmd c wc' wm') := by
  have hs := sg_le (p := p) ho
  have hib : ib (nI c) 27 = true := ibT (by omega) (by omega)
  have hx := h1.row (r := 5) (i := c) (v := nI (sg L ch p)) (by omega)
  have hcl : f_X7_readCommand wc (nI c) = if sg L ch p = 114 then (f_X7_readRoute (wup (wup wc 7 5 c (nI (sg L ch p))) 7 3 9 (nI (p + 1))) (nI c)).bind (fun q8 => if zb q8.1 = true then some (q8.1, q8.2) else none) else if sg L ch p = 112 then (f_X7_readPort (wup (wup wc 7 5 c (nI (sg L ch p))) 7 3 9 (nI (p + 1))) (nI c)).bind (fun q7 => if zb q7.1 = true then some (q7.1, q7.2) else none) else if sg L ch p = 108 then (f_X7_readSwitch (wup (wup wc 7 5 c (nI (sg L ch p))) 7 3 9 (nI (p + 1))) (nI c)).bind (fun q6 => if q6.1 = 0 then some (0, q6.2) else some (1, q6.2)) else some (nI 0, wup wc 7 5 c (nI (sg L ch p))) := by
    rw [f_X7_readCommand, if_neg (nI_pos (by omega)), if_pos (by rw [lit, nI_ltI (by omega) (by omega)]; exact hc), cSign ho h1, Option.bind_some]
    dsimp only
    rw [if_pos hib, nI_clamp (by omega), (chr_nI (sg L ch p) (by omega)).2, letw, show (114 : Int32) = nI 114 from rfl, skip_c ho hx (by omega)]
    by_cases a1 : sg L ch p = 114
    · rw [if_pos a1, if_pos a1, Option.bind_some]
      dsimp only
      rw [if_neg (by decide)]
    · rw [if_neg a1, if_neg a1, Option.bind_some]
      dsimp only
      rw [if_pos rfl, show (112 : Int32) = nI 112 from rfl, skip_c ho hx (by omega)]
      by_cases a2 : sg L ch p = 112
      · rw [if_pos a2, if_pos a2, Option.bind_some]
        dsimp only
        rw [if_neg (by decide)]
      · rw [if_neg a2, if_neg a2, Option.bind_some]
        dsimp only
        rw [if_pos rfl, show (108 : Int32) = nI 108 from rfl, skip_c ho hx (by omega)]
        by_cases a3 : sg L ch p = 108
        · rw [if_pos a3, if_pos a3, Option.bind_some]
          dsimp only
          rw [if_neg (by decide)]
        · rw [if_neg a3, if_neg a3, Option.bind_some]
          dsimp only
          rw [if_pos rfl]
          rfl
  have fin : ∀ (a : Option (Int32 × Wd)) (b : Option (Int32 × Wd)) (K : Nat), (K = 114 ∨ K = 112 ∨ K = 108) → sg L ch p = K → Out L ch c (p + 1) (wup (wup wc 7 5 c (nI K)) 7 3 9 (nI (p + 1))) (wup (wup wm 8 15 c (nI K)) 8 0 20 (nI (p + 1))) a b → ∃ ok p' wc' wm', (ok = 0 ∨ ok = 1) ∧ a = some (nI ok, wc') ∧ b = some (nI ok, wm') ∧ p ≤ p' ∧ Tx L ch p' wc' ∧ Ty L ch p' wm' ∧ FC c wc wc' ∧ FM c wm wm' ∧ (ok = 1 → p + 2 ≤ p' ∧ Cmd c wc' wm') := by
    rintro a b K - hK ⟨ok, p', wc', wm', g1, g2, g3, g4, g5, g6, g7, g8, g9⟩
    have fc : FC c wc (wup (wup wc 7 5 c (nI K)) 7 3 9 (nI (p + 1))) := ((FC.refl _ _).row (by omega) (by omega)).at
    have fm : FM c wm (wup (wup wm 8 15 c (nI K)) 8 0 20 (nI (p + 1))) := ((FM.refl _ _).kind).at
    refine ⟨ok, p', wc', wm', g1, g2, g3, by omega, g5, g6, ⟨fun g r x => (g7.1 g r x).trans (fc.1 g r x), fun r x => (g7.2.1 r x).trans (fc.2.1 r x), fun i x => (g7.2.2.1 i x).trans (fc.2.2.1 i x), fun r i x y => (g7.2.2.2 r i x y).trans (fc.2.2.2 r i x y)⟩, ⟨fun g r x => (g8.1 g r x).trans (fm.1 g r x), fun r x => (g8.2.1 r x).trans (fm.2.1 r x), fun i x => (g8.2.2.1 i x).trans (fm.2.2.1 i x), fun i x => (g8.2.2.2.1 i x).trans (fm.2.2.2.1 i x), fun i x => (g8.2.2.2.2 i x).trans (fm.2.2.2.2 i x)⟩, fun h => ⟨by have := (g9 h).1; omega, (g9 h).2⟩⟩
  have zbo : ∀ (a : Option (Int32 × Wd)) {ok : Nat} {w : Wd}, (ok = 0 ∨ ok = 1) → a = some (nI ok, w) → a.bind (fun q => if zb q.1 = true then some (q.1, q.2) else none) = some (nI ok, w) := by
    intro a ok w h e
    rw [e, Option.bind_some]
    dsimp only
    rcases h with rfl | rfl
    · rw [if_pos (by decide)]
    · rw [if_pos (by decide)]
  have start : ∀ K, (K = 114 ∨ K = 112 ∨ K = 108) → sg L ch p = K → p < L ∧ f_X10_readsCommand wm = j_X10_readsCommand_25 wm (nI K) ∧ Tx L ch (p + 1) (wup (wup wc 7 5 c (nI K)) 7 3 9 (nI (p + 1))) ∧ Ty L ch (p + 1) (wup (wup wm 8 15 c (nI K)) 8 0 20 (nI (p + 1))) ∧ (wup (wup wm 8 15 c (nI K)) 8 0 20 (nI (p + 1))) 8 0 21 = nI c ∧ (wup (wup wc 7 5 c (nI K)) 7 3 9 (nI (p + 1))) 7 5 c = nI K ∧ (wup (wup wm 8 15 c (nI K)) 8 0 20 (nI (p + 1))) 8 15 c = nI K := by
    intro K hK he
    have hl := sg_lt (L := L) (ch := ch) (p := p) (by omega)
    refine ⟨hl, ?_, (h1.row (by omega)).at (by omega), (h2.row (by omega)).at (by omega), ?_, ?_, ?_⟩
    · rw [f_X10_readsCommand, mSign ho h2, Option.bind_some, if_pos hl, show nI (ch p) = nI K from by rw [← he, sg, if_pos hl]]
      dsimp only
      rcases hK with rfl | rfl | rfl
      · rw [if_pos (by rfl)]
      · rw [if_neg (by decide), if_pos (by rfl)]
      · rw [if_neg (by decide), if_neg (by decide), if_pos (by rfl)]
    · simp (disch := omega) only [wup_hit, wup_ne]; exact e21
    · simp (disch := omega) only [wup_hit, wup_ne]
    · simp (disch := omega) only [wup_hit, wup_ne]
  have j25 : ∀ K, j_X10_readsCommand_25 wm (nI K) = if nI K = 108 then (f_X10_reads (wup (wup wm 8 15 c (nI K)) 8 0 20 (nI (p + 1))) 0 1 1 1).bind fun q16 => if zb q16.1 = true then some (q16.1, q16.2) else none else if nI K = 112 then (f_X10_reads (wup (wup wm 8 15 c (nI K)) 8 0 20 (nI (p + 1))) 0 1 9 0).bind fun q13 => if q13.1 = 0 then some (0, q13.2) else (f_X10_takes q13.2 62).bind fun q14 => if q14.1 = 0 then some (0, q14.2) else (f_X10_reads q14.2 1 1 1 1).bind fun q15 => if q15.1 = 0 then some (0, q15.2) else some (1, q15.2) else (f_X10_reads (wup (wup wm 8 15 c (nI K)) 8 0 20 (nI (p + 1))) 0 1 1 1).bind fun q4 => if q4.1 = 0 then j_X10_readsCommand_149 q4.2 0 else (f_X10_takes q4.2 62).bind fun q10 => if q10.1 = 0 then j_X10_readsCommand_149 q10.2 0 else (f_X10_reads q10.2 1 1 1 1).bind fun q11 => if q11.1 = 0 then j_X10_readsCommand_149 q11.2 0 else (f_X10_takes q11.2 58).bind fun q12 => if q12.1 = 0 then j_X10_readsCommand_149 q12.2 0 else j_X10_readsCommand_149 q12.2 1 := by
    intro K
    rw [j_X10_readsCommand_25, if_pos (by rw [e21]; exact ibT (by omega) (by omega)), e21, nI_clamp (by omega), letw, wup_ne (by omega), h2.2.2.1, nI_1, letw]
  by_cases a1 : sg L ch p = 114
  · obtain ⟨s1, s2, s3, s4, s5, s6, s7⟩ := start 114 (by omega) a1
    have H := cmd_r ho hc s3 s4 s5 s6 s7
    obtain ⟨ok, p', wc', wm', g1, g2, g3, g4⟩ := fin _ _ 114 (by omega) a1 H
    refine ⟨ok, p', wc', wm', g1, ?_, ?_, g4⟩
    · rw [hcl, if_pos a1, a1]; exact zbo _ g1 g2
    · rw [s2, j25, if_neg (by decide), if_neg (by decide)]; exact g3
  · by_cases a2 : sg L ch p = 112
    · obtain ⟨s1, s2, s3, s4, s5, s6, s7⟩ := start 112 (by omega) a2
      have H := cmd_p ho hc s3 s4 s5 s6 s7
      obtain ⟨ok, p', wc', wm', g1, g2, g3, g4⟩ := fin _ _ 112 (by omega) a2 H
      refine ⟨ok, p', wc', wm', g1, ?_, ?_, g4⟩
      · rw [hcl, if_neg a1, if_pos a2, a2]; exact zbo _ g1 g2
      · rw [s2, j25, if_neg (by decide), if_pos (by rfl)]; exact g3
    · by_cases a3 : sg L ch p = 108
      · obtain ⟨s1, s2, s3, s4, s5, s6, s7⟩ := start 108 (by omega) a3
        have H := cmd_l ho hc s3 s4 s5 s6 s7
        obtain ⟨ok, p', wc', wm', g1, g2, g3, g4⟩ := fin _ _ 108 (by omega) a3 H
        refine ⟨ok, p', wc', wm', g1, ?_, ?_, g4⟩
        · rw [hcl, if_neg a1, if_neg a2, if_pos a3, a3]; exact g2
        · rw [s2, j25, if_pos (by rfl)]; exact g3
      · refine ⟨0, p, _, wm, Or.inl rfl, ?_, ?_, Nat.le_refl _, hx, h2, (FC.refl _ _).row (by omega) (by omega), FM.refl _ _, fun h => by omega⟩
        · rw [hcl, if_neg a1, if_neg a2, if_neg a3]
        · rw [f_X10_readsCommand, mSign ho h2, Option.bind_some]
          dsimp only
          rw [show (114 : Int32) = nI 114 from rfl, if_neg (by rw [mEq ho (by omega) (by omega)]; exact a1), show (112 : Int32) = nI 112 from rfl, if_neg (by rw [mEq ho (by omega) (by omega)]; exact a2), show (108 : Int32) = nI 108 from rfl, if_neg (by rw [mEq ho (by omega) (by omega)]; exact a3)]
          rfl
/-- what reading a text may change -/
def GC (w w' : Wd) : Prop := (∀ g r, g ≠ 7 → w' g r = w g r) ∧ (∀ r, (r < 3 ∨ r = 4 ∨ 11 ≤ r) → w' 7 r = w 7 r) ∧ ∀ i, i ≠ 9 → i ≠ 8 → w' 7 3 i = w 7 3 i
def GM (w w' : Wd) : Prop := (∀ g r, g ≠ 8 → w' g r = w g r) ∧ (∀ r, (1 ≤ r ∧ r < 15) → w' 8 r = w 8 r) ∧ ∀ i, i ≠ 20 → i ≠ 21 → w' 8 0 i = w 8 0 i
theorem GC.trans {a b c : Wd} (h : GC a b) (k : GC b c) : GC a c := ⟨fun g r x => (k.1 g r x).trans (h.1 g r x), fun r x => (k.2.1 r x).trans (h.2.1 r x), fun i x y => (k.2.2 i x y).trans (h.2.2 i x y)⟩
theorem GM.trans {a b c : Wd} (h : GM a b) (k : GM b c) : GM a c := ⟨fun g r x => (k.1 g r x).trans (h.1 g r x), fun r x => (k.2.1 r x).trans (h.2.1 r x), fun i x y => (k.2.2 i x y).trans (h.2.2 i x y)⟩
theorem Cmd.keep {c : Nat} {wc wm wc' wm' : Wd} (h : Cmd c wc wm) (h1 : ∀ r, 5 ≤ r → wc' 7 r c = wc 7 r c) (h2 : wm' 8 15 c = wm 8 15 c) (h3 : ∀ k, k < 5 → wm' 8 16 (5 * c + k) = wm 8 16 (5 * c + k)) : Cmd c wc' wm' := by
  have h30 : wm' 8 16 (5 * c) = wm 8 16 (5 * c) := h3 0 (by omega)
  unfold Cmd
  rw [h1 5 (by omega), h1 6 (by omega), h1 7 (by omega), h1 8 (by omega), h1 9 (by omega), h1 10 (by omega), h2, h30, h3 1 (by omega), h3 2 (by omega), h3 3 (by omega), h3 4 (by omega)]
  exact h
theorem parse_loop {L : Nat} {ch : Nat → Nat} (ho : TxOK L ch) : ∀ (m c p fu fu' : Nat) (wc wm : Wd), L - p < m → m ≤ fu → m ≤ fu' → 3 * c ≤ p → Tx L ch p wc → Ty L ch p wm → wm 8 0 21 = nI c → (∀ j, j < c → Cmd j wc wm) → ∃ ok p' wc' wm', (ok = 0 ∨ ok = 1) ∧ h_X7_parse_12 fu wc (nI c) = some (nI ok, wc') ∧ h_X10_readsText_12 fu' wm 1 = some (nI ok, wm') ∧ Tx L ch p' wc' ∧ Ty L ch p' wm' ∧ GC wc wc' ∧ GM wm wm' ∧ (ok = 1 → ∃ C, C ≤ 27 ∧ wc' 7 3 8 = nI C ∧ wm' 8 0 21 = nI C ∧ ∀ j, j < C → Cmd j wc' wm') := by
  intro m
  induction m with
  | zero => intro c p fu fu' wc wm h1; omega
  | succ m ih =>
    intro c p fu fu' wc wm h1 h2 h3 h4 hx hy e21 hj
    obtain ⟨fu, rfl⟩ : ∃ z, fu = z + 1 := ⟨fu - 1, by omega⟩
    obtain ⟨fu', rfl⟩ : ∃ z, fu' = z + 1 := ⟨fu' - 1, by omega⟩
    have hL := ho.1
    have hpL := hx.2.2.2
    have hc27 : c < 27 := by omega
    obtain ⟨ok, p', wc', wm', g1, g2, g3, g4, g5, g6, g7, g8, g9⟩ := command_both ho hc27 hx hy e21
    have gc : GC wc wc' := ⟨g7.1, g7.2.1, fun i x _ => g7.2.2.1 i x⟩
    have gm : GM wm wm' := ⟨g8.1, g8.2.1, fun i x _ => g8.2.2.1 i x⟩
    have hp'L := g5.2.2.2
    rw [h_X7_parse_12, b_X7_parse_12, if_neg (by rw [lit, nI_leI (by omega) (by omega)]; omega), g2, Option.bind_some, h_X10_readsText_12, b_X10_readsText_12, if_neg (show ¬ (1 : Int32) = 0 by decide), g3, Option.bind_some]
    dsimp only
    rcases g1 with rfl | rfl
    · rw [if_pos (by rfl), if_pos (by rfl)]
      exact ⟨0, p', wc', wm', Or.inl rfl, rfl, rfl, g5, g6, gc, gm, fun h => by omega⟩
    · obtain ⟨q1, q2⟩ := g9 rfl
      have e21' : wm' 8 0 21 = nI c := (g8.2.2.1 21 (by omega)).trans e21
      rw [if_neg (by decide), if_neg (by decide), e21', nI_1, letw, letw]
      have gc2 : GC wc (wup wc' 7 3 8 (nI (c + 1))) := ⟨fun g r x => by rw [wup_row, if_neg (by omega)]; exact gc.1 g r x, fun r x => by rw [wup_row, if_neg (by omega)]; exact gc.2.1 r x, fun i x y => by rw [wup_at, if_neg (by omega)]; exact gc.2.2 i x y⟩
      have gm2 : GM wm (wup wm' 8 0 21 (nI (c + 1))) := ⟨fun g r x => by rw [wup_row, if_neg (by omega)]; exact gm.1 g r x, fun r x => by rw [wup_row, if_neg (by omega)]; exact gm.2.1 r x, fun i x y => by rw [wup_at, if_neg (by omega)]; exact gm.2.2 i x y⟩
      have hx2 : Tx L ch p' (wup wc' 7 3 8 (nI (c + 1))) := ⟨by rw [wup_at, if_neg (by omega)]; exact g5.1, fun i hi => by rw [wup_at, if_neg (by omega)]; exact g5.2.1 i hi, by rw [wup_at, if_neg (by omega)]; exact g5.2.2.1, hp'L⟩
      have hy2 : Ty L ch p' (wup wm' 8 0 21 (nI (c + 1))) := ⟨by rw [wup_at, if_neg (by omega)]; exact g6.1, fun i hi => by rw [wup_at, if_neg (by omega)]; exact g6.2.1 i hi, by rw [wup_at, if_neg (by omega)]; exact g6.2.2.1, hp'L⟩
      have hj2 : ∀ j, j < c + 1 → Cmd j (wup wc' 7 3 8 (nI (c + 1))) (wup wm' 8 0 21 (nI (c + 1))) := by
        intro j hjc
        have hcm : Cmd j wc' wm' := by
          by_cases he : j = c
          · rw [he]; exact q2
          · exact (hj j (by omega)).keep (fun r hr => g7.2.2.2 r j hr he) (g8.2.2.2.1 j he) (fun k hk => g8.2.2.2.2 _ (by omega))
        exact hcm.keep (fun r hr => by rw [wup_at, if_neg (by omega)]) (by rw [wup_at, if_neg (by omega)]) (fun k hk => by rw [wup_at, if_neg (by omega)])
      have z8 : (wup wc' 7 3 8 (nI (c + 1))) 7 3 8 = nI (c + 1) := by rw [wup_at, if_pos ⟨rfl, rfl, rfl⟩]
      have z21 : (wup wm' 8 0 21 (nI (c + 1))) 8 0 21 = nI (c + 1) := by rw [wup_at, if_pos ⟨rfl, rfl, rfl⟩]
      generalize wup wc' 7 3 8 (nI (c + 1)) = wc2 at *
      generalize wup wm' 8 0 21 (nI (c + 1)) = wm2 at *
      rw [hx2.2.2.1, hx2.1, show (59 : Int32) = nI 59 from rfl, takes_m ho hy2 (by omega) (by omega)]
      by_cases hlt : p' < L
      · rw [if_pos (by rw [nI_ltI (by omega) (by omega)]; exact hlt), skip_c ho hx2 (by omega)]
        by_cases h59 : sg L ch p' = 59
        · rw [if_pos h59, if_pos h59, Option.bind_some, Option.bind_some]
          dsimp only
          rw [if_neg (by decide)]
          obtain ⟨ok, p'', wc3, wm3, r1, r2, r3, r4, r5, r6, r7, r8⟩ := ih (c + 1) (p' + 1) fu fu' (wup wc2 7 3 9 (nI (p' + 1))) (wup wm2 8 0 20 (nI (p' + 1))) (by omega) (by omega) (by omega) (by omega) (hx2.at (by omega)) (hy2.at (by omega)) (by rw [wup_at, if_neg (by omega)]; exact z21) (fun j hjc => (hj2 j hjc).keep (fun r hr => by rw [wup_at, if_neg (by omega)]) (by rw [wup_at, if_neg (by omega)]) (fun k hk => by rw [wup_at, if_neg (by omega)]))
          have gc3 : GC wc2 (wup wc2 7 3 9 (nI (p' + 1))) := ⟨fun g r x => by rw [wup_row, if_neg (by omega)], fun r x => by rw [wup_row, if_neg (by omega)], fun i x y => by rw [wup_at, if_neg (by omega)]⟩
          have gm3 : GM wm2 (wup wm2 8 0 20 (nI (p' + 1))) := ⟨fun g r x => by rw [wup_row, if_neg (by omega)], fun r x => by rw [wup_row, if_neg (by omega)], fun i x y => by rw [wup_at, if_neg (by omega)]⟩
          exact ⟨ok, p'', wc3, wm3, r1, r2, r3, r4, r5, (gc2.trans gc3).trans r6, (gm2.trans gm3).trans r7, r8⟩
        · rw [if_neg h59, if_neg h59, Option.bind_some, Option.bind_some]
          dsimp only
          obtain ⟨fu', rfl⟩ : ∃ z, fu' = z + 1 := ⟨fu' - 1, by omega⟩
          rw [if_pos rfl, h_X10_readsText_12, b_X10_readsText_12, if_pos rfl, hy2.2.2.1, hy2.1, if_neg (by rw [nI_eq (by omega) (by omega)]; omega)]
          exact ⟨0, p', wc2, wm2, Or.inl rfl, rfl, rfl, hx2, hy2, gc2, gm2, fun h => by omega⟩
      · have hpe : p' = L := by omega
        have hsg : sg L ch p' = 0 := if_neg hlt
        obtain ⟨fu', rfl⟩ : ∃ z, fu' = z + 1 := ⟨fu' - 1, by omega⟩
        rw [if_neg (by rw [nI_ltI (by omega) (by omega)]; exact hlt), if_neg (by omega), Option.bind_some]
        dsimp only
        rw [h_X10_readsText_12, b_X10_readsText_12, if_pos rfl, hy2.2.2.1, hy2.1, if_pos (by rw [hpe])]
        exact ⟨1, p', wc2, wm2, Or.inr rfl, rfl, rfl, hx2, hy2, gc2, gm2, fun _ => ⟨c + 1, by omega, z8, z21, hj2⟩⟩
theorem parse_both {L : Nat} {ch : Nat → Nat} {wc wm : Wd} (ho : TxOK L ch) (h1 : wc 7 3 7 = nI L) (h2 : ∀ i, i < L → wc 7 4 i = nI (ch i)) (h3 : wm 8 0 19 = nI L) (h4 : ∀ i, i < L → wm 8 14 i = nI (ch i)) : ∃ ok p' wc' wm', (ok = 0 ∨ ok = 1) ∧ f_X7_parse wc = some (nI ok, wc') ∧ f_X10_readsText wm = some (nI ok, wm') ∧ Tx L ch p' wc' ∧ Ty L ch p' wm' ∧ GC wc wc' ∧ GM wm wm' ∧ (ok = 1 → ∃ C, C ≤ 27 ∧ wc' 7 3 8 = nI C ∧ wm' 8 0 21 = nI C ∧ ∀ j, j < C → Cmd j wc' wm') := by
  have hL := ho.1
  obtain ⟨ok, p', wc', wm', g1, g2, g3, g4, g5, g6, g7, g8⟩ := parse_loop ho 81 0 0 FU FU (wup (wup wc 7 3 9 0) 7 3 8 0) (wup (wup wm 8 0 20 0) 8 0 21 0) (by omega) (by rw [FU_eq]; omega) (by rw [FU_eq]; omega) (by omega) ⟨by simp (disch := omega) only [wup_hit, wup_ne]; exact h1, fun i hi => by simp (disch := omega) only [wup_hit, wup_ne]; exact h2 i hi, by simp (disch := omega) only [wup_hit, wup_ne]; rfl, by omega⟩ ⟨by simp (disch := omega) only [wup_hit, wup_ne]; exact h3, fun i hi => by simp (disch := omega) only [wup_hit, wup_ne]; exact h4 i hi, by simp (disch := omega) only [wup_hit, wup_ne]; rfl, by omega⟩ (by rw [wup_hit ⟨rfl, rfl, rfl⟩]; rfl) (fun j hj => by omega)
  refine ⟨ok, p', wc', wm', g1, ?_, ?_, g4, g5, ?_, ?_, g8⟩
  · rw [f_X7_parse, letw, letw]; exact g2
  · rw [f_X10_readsText, letw, letw]; exact g3
  · refine GC.trans ⟨fun g r x => ?_, fun r x => ?_, fun i x y => ?_⟩ g6
    · rw [wup_row, if_neg (by omega), wup_row, if_neg (by omega)]
    · rw [wup_row, if_neg (by omega), wup_row, if_neg (by omega)]
    · rw [wup_at, if_neg (by omega), wup_at, if_neg (by omega)]
  · refine GM.trans ⟨fun g r x => ?_, fun r x => ?_, fun i x y => ?_⟩ g7
    · rw [wup_row, if_neg (by omega), wup_row, if_neg (by omega)]
    · rw [wup_row, if_neg (by omega), wup_row, if_neg (by omega)]
    · rw [wup_at, if_neg (by omega), wup_at, if_neg (by omega)]
