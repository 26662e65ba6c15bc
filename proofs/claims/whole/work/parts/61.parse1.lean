theorem wup_hit {w : Wd} {g c i g' c' i' : Nat} {v : Int32} (h : g' = g ∧ c' = c ∧ i' = i) : wup w g c i v g' c' i' = v := by rw [wup_at, if_pos h]
theorem wup_ne {w : Wd} {g c i g' c' i' : Nat} {v : Int32} (h : ¬ (g' = g ∧ c' = c ∧ i' = i)) : wup w g c i v g' c' i' = w g' c' i' := by rw [wup_at, if_neg h]
/-- what reading command c may change -/
def FC (c : Nat) (w w' : Wd) : Prop := (∀ g r, g ≠ 7 → w' g r = w g r) ∧ (∀ r, (r < 3 ∨ r = 4 ∨ 11 ≤ r) → w' 7 r = w 7 r) ∧ (∀ i, i ≠ 9 → w' 7 3 i = w 7 3 i) ∧ ∀ r i, 5 ≤ r → i ≠ c → w' 7 r i = w 7 r i
def FM (c : Nat) (w w' : Wd) : Prop := (∀ g r, g ≠ 8 → w' g r = w g r) ∧ (∀ r, (1 ≤ r ∧ r < 15) → w' 8 r = w 8 r) ∧ (∀ i, i ≠ 20 → w' 8 0 i = w 8 0 i) ∧ (∀ i, i ≠ c → w' 8 15 i = w 8 15 i) ∧ ∀ i, ¬ (5 * c ≤ i ∧ i < 5 * c + 5) → w' 8 16 i = w 8 16 i
theorem FC.refl (c : Nat) (w : Wd) : FC c w w := ⟨fun _ _ _ => rfl, fun _ _ => rfl, fun _ _ => rfl, fun _ _ _ _ => rfl⟩
theorem FM.refl (c : Nat) (w : Wd) : FM c w w := ⟨fun _ _ _ => rfl, fun _ _ => rfl, fun _ _ => rfl, fun _ _ => rfl, fun _ _ => rfl⟩
theorem FC.at {c : Nat} {w w' : Wd} {v : Int32} (h : FC c w w') : FC c w (wup w' 7 3 9 v) := ⟨fun g r x => by rw [wup_row, if_neg (by omega)]; exact h.1 g r x, fun r x => by rw [wup_row, if_neg (by omega)]; exact h.2.1 r x, fun i x => by rw [wup_at, if_neg (by omega)]; exact h.2.2.1 i x, fun r i x y => by rw [wup_at, if_neg (by omega)]; exact h.2.2.2 r i x y⟩
theorem FC.row {c r : Nat} {w w' : Wd} {v : Int32} (h : FC c w w') (h5 : 5 ≤ r) (h10 : r ≤ 10) : FC c w (wup w' 7 r c v) := ⟨fun g r x => by rw [wup_row, if_neg (by omega)]; exact h.1 g r x, fun r x => by rw [wup_row, if_neg (by omega)]; exact h.2.1 r x, fun i x => by rw [wup_at, if_neg (by omega)]; exact h.2.2.1 i x, fun r i x y => by rw [wup_at, if_neg (by omega)]; exact h.2.2.2 r i x y⟩
theorem FM.at {c : Nat} {w w' : Wd} {v : Int32} (h : FM c w w') : FM c w (wup w' 8 0 20 v) := ⟨fun g r x => by rw [wup_row, if_neg (by omega)]; exact h.1 g r x, fun r x => by rw [wup_row, if_neg (by omega)]; exact h.2.1 r x, fun i x => by rw [wup_at, if_neg (by omega)]; exact h.2.2.1 i x, fun i x => by rw [wup_at, if_neg (by omega)]; exact h.2.2.2.1 i x, fun i x => by rw [wup_at, if_neg (by omega)]; exact h.2.2.2.2 i x⟩
theorem FM.row {c wh : Nat} {w w' : Wd} {v : Int32} (h : FM c w w') (hw : wh < 5) : FM c w (wup w' 8 16 (5 * c + wh) v) := ⟨fun g r x => by rw [wup_row, if_neg (by omega)]; exact h.1 g r x, fun r x => by rw [wup_row, if_neg (by omega)]; exact h.2.1 r x, fun i x => by rw [wup_at, if_neg (by omega)]; exact h.2.2.1 i x, fun i x => by rw [wup_at, if_neg (by omega)]; exact h.2.2.2.1 i x, fun i x => by rw [wup_at, if_neg (by omega)]; exact h.2.2.2.2 i x⟩
theorem FM.kind {c : Nat} {w w' : Wd} {v : Int32} (h : FM c w w') : FM c w (wup w' 8 15 c v) := ⟨fun g r x => by rw [wup_row, if_neg (by omega)]; exact h.1 g r x, fun r x => by rw [wup_row, if_neg (by omega)]; exact h.2.1 r x, fun i x => by rw [wup_at, if_neg (by omega)]; exact h.2.2.1 i x, fun i x => by rw [wup_at, if_neg (by omega)]; exact h.2.2.2.1 i x, fun i x => by rw [wup_at, if_neg (by omega)]; exact h.2.2.2.2 i x⟩
/-- both read the same -/
def Out (L : Nat) (ch : Nat → Nat) (c p : Nat) (wc wm : Wd) (a b : Option (Int32 × Wd)) : Prop := ∃ ok p' wc' wm', (ok = 0 ∨ ok = 1) ∧ a = some (nI ok, wc') ∧ b = some (nI ok, wm') ∧ p ≤ p' ∧ Tx L ch p' wc' ∧ Ty L ch p' wm' ∧ FC c wc wc' ∧ FM c wm wm' ∧ (ok = 1 → p + 1 ≤ p' ∧ Cmd c wc' wm')
theorem out_F {L c p p' : Nat} {ch : Nat → Nat} {wc wm wc' wm' : Wd} {a b : Option (Int32 × Wd)} (ha : a = some (nI 0, wc')) (hb : b = some (nI 0, wm')) (hp : p ≤ p') (h1 : Tx L ch p' wc') (h2 : Ty L ch p' wm') (h3 : FC c wc wc') (h4 : FM c wm wm') : Out L ch c p wc wm a b := ⟨0, p', wc', wm', Or.inl rfl, ha, hb, hp, h1, h2, h3, h4, fun h => by omega⟩
theorem readDigit_c {L p : Nat} {ch : Nat → Nat} {w : Wd} (ho : TxOK L ch) (h : Tx L ch p w) : f_X7_readDigit w = if dgp L ch p then some (nI (sg L ch p - 48), wup w 7 3 9 (nI (p + 1))) else some (-9, w) := by
  have hs := sg_le (p := p) ho
  rw [f_X7_readDigit, digit_c ho h, Option.bind_some]
  dsimp only
  by_cases hd : dgp L ch p
  · rw [if_pos hd, if_pos hd, if_neg (by decide), cSign ho h, Option.bind_some]
    dsimp only
    rw [lit, nI_sub (by omega), leti, h.2.2.1, nI_1, letw]
  · rw [if_neg hd, if_neg hd, if_pos (by decide)]
theorem readSwitch_c {L p c : Nat} {ch : Nat → Nat} {w : Wd} (ho : TxOK L ch) (h : Tx L ch p w) (hc : c < 27) : f_X7_readSwitch w (nI c) = if dgp L ch p then some (nI 1, wup (wup w 7 3 9 (nI (p + 1))) 7 6 c (nI (sg L ch p - 48))) else some (nI 0, wup w 7 6 c (-9)) := by
  have hs := sg_le (p := p) ho
  have hib : ib (nI c) 27 = true := ibT (by omega) (by omega)
  rw [f_X7_readSwitch, readDigit_c ho h]
  by_cases hd : dgp L ch p
  · rw [if_pos hd, if_pos hd, Option.bind_some]
    dsimp only
    rw [if_pos hib, nI_clamp (by omega), letw, if_pos hib, if_neg (by rw [wup_at, if_pos ⟨rfl, rfl, rfl⟩]; exact nI_ne_m9 (by omega))]; rfl
  · rw [if_neg hd, if_neg hd, Option.bind_some]
    dsimp only
    rw [if_pos hib, nI_clamp (by omega), letw, if_pos hib, if_pos (by rw [wup_at, if_pos ⟨rfl, rfl, rfl⟩])]; rfl
theorem read1_m {L p c wh : Nat} {ch : Nat → Nat} {w : Wd} (ho : TxOK L ch) (h : Ty L ch p w) (hc : c < 27) (hwh : wh < 5) (e21 : w 8 0 21 = nI c) : f_X10_reads w (nI wh) 1 1 1 = if dgp L ch p then some (nI 1, wup (wup w 8 0 20 (nI (p + 1))) 8 16 (5 * c + wh) (nI (sg L ch p - 48))) else some (nI 0, wup w 8 16 (5 * c + wh) (nI 0)) := by
  rw [show f_X10_reads w (nI wh) 1 1 1 = f_X10_reads w (nI wh) (nI 1) (nI 1) 1 from rfl, reads1_m ho (by omega) hc hwh (by omega) h e21, rd1]
  by_cases hd : dgp L ch p
  · rw [if_pos hd, if_pos hd]
    dsimp only
    rw [if_neg (by omega)]
  · rw [if_neg hd, if_neg hd]
    dsimp only
    rw [if_pos (by omega), ← h.2.2.1, wup_self]
theorem cmd_l {L p c : Nat} {ch : Nat → Nat} {wc wm : Wd} (ho : TxOK L ch) (hc : c < 27) (h1 : Tx L ch p wc) (h2 : Ty L ch p wm) (e21 : wm 8 0 21 = nI c) (k1 : wc 7 5 c = nI 108) (k2 : wm 8 15 c = nI 108) : Out L ch c p wc wm ((f_X7_readSwitch wc (nI c)).bind fun q6 => if q6.1 = 0 then some (0, q6.2) else some (1, q6.2)) ((f_X10_reads wm 0 1 1 1).bind fun q16 => if zb q16.1 = true then some (q16.1, q16.2) else none) := by
  have hs := sg_le (p := p) ho
  rw [readSwitch_c ho h1 hc, show f_X10_reads wm 0 1 1 1 = f_X10_reads wm (nI 0) 1 1 1 from rfl, read1_m ho h2 hc (by omega) e21]
  by_cases hd : dgp L ch p
  · have hl := sg_lt (L := L) (ch := ch) (p := p) (by omega)
    rw [if_pos hd, if_pos hd, Option.bind_some, Option.bind_some]
    dsimp only
    rw [if_neg (by decide), if_pos (by decide)]
    refine ⟨1, p + 1, _, _, Or.inr rfl, rfl, rfl, by omega, (h1.at (by omega)).row (by omega), (h2.at (by omega)).row (by omega), (FC.refl _ _).at.row (by omega) (by omega), (FM.refl _ _).at.row (by omega), fun _ => ⟨by omega, Or.inr (Or.inr ⟨?_, ?_, sg L ch p - 48, by omega, ?_, ?_⟩)⟩⟩
    · rw [wup_at, if_neg (by omega), wup_at, if_neg (by omega)]; exact k1
    · rw [wup_at, if_neg (by omega), wup_at, if_neg (by omega)]; exact k2
    · rw [wup_at, if_pos ⟨rfl, rfl, rfl⟩]
    · rw [wup_at, if_pos ⟨rfl, rfl, by omega⟩]
  · rw [if_neg hd, if_neg hd, Option.bind_some, Option.bind_some]
    dsimp only
    rw [if_pos (by decide), if_pos (by decide)]
    exact out_F rfl rfl (Nat.le_refl _) (h1.row (by omega)) (h2.row (by omega)) ((FC.refl _ _).row (by omega) (by omega)) ((FM.refl _ _).row (by omega))
theorem cmd_p {L p c : Nat} {ch : Nat → Nat} {wc wm : Wd} (ho : TxOK L ch) (hc : c < 27) (h1 : Tx L ch p wc) (h2 : Ty L ch p wm) (e21 : wm 8 0 21 = nI c) (k1 : wc 7 5 c = nI 112) (k2 : wm 8 15 c = nI 112) : Out L ch c p wc wm (f_X7_readPort wc (nI c)) ((f_X10_reads wm 0 1 9 0).bind fun q13 =>
      if q13.1 = 0 then
        some (0, q13.2)
      else
        (f_X10_takes q13.2 62).bind fun q14 =>
        if q14.1 = 0 then
          some (0, q14.2)
        else
          (f_X10_reads q14.2 1 1 1 1).bind fun q15 =>
          if q15.1 = 0 then
            some (0, q15.2)
          else
            some (1, q15.2)) := by
  have hs := sg_le (p := p) ho
  have hib : ib (nI c) 27 = true := ibT (by omega) (by omega)
  have hpL := h1.2.2.2
  rw [f_X7_readPort, cSign ho h1, Option.bind_some, show f_X10_reads wm 0 1 9 0 = f_X10_reads wm (nI 0) (nI 1) (nI 9) 0 from rfl, reads0_m ho (by omega) (by omega) hc (by omega) (by omega) h2 e21]
  dsimp only
  by_cases h48 : sg L ch p = 48
  · rw [if_pos (by rw [h48]; rfl), if_pos h48, Option.bind_some]
    dsimp only
    rw [if_pos (c := 0 < 1) (by omega), if_pos (by decide)]
    exact out_F rfl rfl (Nat.le_refl _) h1 (h2.row (by omega)) (FC.refl _ _) ((FM.refl _ _).row (by omega))
  · rw [if_neg (by rw [lit, nI_eq (by omega) (by omega)]; exact h48), if_neg h48, digit_c ho h1, Option.bind_some, Option.bind_some]
    dsimp only
    by_cases hd : dgp L ch p
    · have hl := sg_lt (L := L) (ch := ch) (p := p) (by omega)
      obtain ⟨b1, b2, b3, b4⟩ := rd_bd (L := L) (ch := ch) 9 p 0 0 hpL (by omega)
      have b5 := rd_bd (L := L) (ch := ch) 8 (p + 1) (sg L ch p - 48) 1 (by omega) (by omega)
      rw [show sg L ch p - 48 = 10 * 0 + (sg L ch p - 48) from by omega, ← rd_T hd] at b5
      have hs2 := sg_le (p := (rd L ch 9 p 0).2) ho
      rw [if_pos hd, if_neg (by decide), show (9 : Int32) = nI 9 from rfl, readDigits_c ho (by omega) h1, Option.bind_some]
      dsimp only
      rw [if_pos hib, nI_clamp (by omega), letw, show (62 : Int32) = nI 62 from rfl]
      generalize hN : (rd L ch 9 p 0).1 = N at *
      generalize hQ : (rd L ch 9 p 0).2 = Q at *
      have hx1 : Tx L ch Q (wup (wup wc 7 3 9 (nI Q)) 7 8 c (nI N)) := (h1.at b4).row (by omega)
      have hx2 : Ty L ch Q (wup (wup wm 8 0 20 (nI Q)) 8 16 (5 * c + 0) (nI N)) := (h2.at b4).row (by omega)
      rw [if_neg (c := Q - p < 1) (by omega), if_neg (by decide), skip_c ho hx1 (by omega), takes_m ho hx2 (by omega) (by omega)]
      by_cases h62 : sg L ch Q = 62
      · have hlQ := sg_lt (L := L) (ch := ch) (p := Q) (by omega)
        have hs3 := sg_le (p := Q + 1) ho
        rw [if_pos h62, if_pos h62, Option.bind_some, Option.bind_some]
        dsimp only
        have hy1 := hx1.at (p' := Q + 1) (by omega)
        have hy2 := hx2.at (p' := Q + 1) (by omega)
        rw [if_neg (by decide), if_neg (by decide), readSwitch_c ho hy1 hc, show ∀ w, f_X10_reads w 1 1 1 1 = f_X10_reads w (nI 1) 1 1 1 from fun _ => rfl, read1_m ho hy2 hc (by omega) (by rw [wup_at, if_neg (by omega), wup_at, if_neg (by omega), wup_at, if_neg (by omega)]; exact e21)]
        by_cases hd2 : dgp L ch (Q + 1)
        · have hl2 := sg_lt (L := L) (ch := ch) (p := Q + 1) (by omega)
          rw [if_pos hd2, if_pos hd2, Option.bind_some, Option.bind_some]
          dsimp only
          rw [if_neg (by decide), if_neg (by decide)]
          refine ⟨1, Q + 1 + 1, _, _, Or.inr rfl, rfl, rfl, by omega, (hy1.at (by omega)).row (by omega), (hy2.at (by omega)).row (by omega), ((((FC.refl _ _).at.row (by omega) (by omega)).at).at.row (by omega) (by omega)), (((FM.refl _ _).at.row (by omega)).at).at.row (by omega), fun _ => ⟨by omega, Or.inr (Or.inl ⟨?_, ?_, N, sg L ch (Q + 1) - 48, by omega, by omega, by omega, ?_, ?_, ?_, ?_⟩)⟩⟩
          · simp (disch := omega) only [wup_hit, wup_ne]
            exact k1
          · simp (disch := omega) only [wup_hit, wup_ne]
            exact k2
          · simp (disch := omega) only [wup_hit, wup_ne]
          · simp (disch := omega) only [wup_hit, wup_ne]
          · simp (disch := omega) only [wup_hit, wup_ne]
          · simp (disch := omega) only [wup_hit, wup_ne]
        · rw [if_neg hd2, if_neg hd2, Option.bind_some, Option.bind_some]
          dsimp only
          rw [if_pos (by decide), if_pos (by decide)]
          exact out_F rfl rfl (by omega) (hy1.row (by omega)) (hy2.row (by omega)) ((((FC.refl _ _).at.row (by omega) (by omega)).at).row (by omega) (by omega)) ((((FM.refl _ _).at.row (by omega)).at).row (by omega))
      · rw [if_neg h62, if_neg h62, Option.bind_some, Option.bind_some]
        dsimp only
        rw [if_pos rfl, if_pos rfl]
        exact out_F rfl rfl (by omega) hx1 hx2 ((FC.refl _ _).at.row (by omega) (by omega)) ((FM.refl _ _).at.row (by omega))
    · rw [if_neg hd, if_pos (by decide), rd_F hd]
      dsimp only
      rw [Nat.sub_self, if_pos (c := 0 < 1) (by omega), if_pos (by decide)]
      exact out_F rfl rfl (Nat.le_refl _) h1 ((h2.at hpL).row (by omega)) (FC.refl _ _) ((FM.refl _ _).at.row (by omega))
