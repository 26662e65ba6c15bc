theorem ofInt_toInt {k : Int} (h1 : -(2 ^ 31) ≤ k) (h2 : k < 2 ^ 31) : (Int32.ofInt k).toInt = k := Int32.toInt_ofInt_of_le h1 h2
theorem ofInt_nI {k : Int} {l : Nat} (h1 : -(2 ^ 31) ≤ k) (h2 : k < 2 ^ 31) (hl : l < 2 ^ 31) : (Int32.ofInt k = nI l) = (k = l) := by
  rw [← Int32.toInt_inj, ofInt_toInt h1 h2, nI_toInt hl]
theorem ofInt_le {k : Int} {l : Nat} (h1 : -(2 ^ 31) ≤ k) (h2 : k < 2 ^ 31) (hl : l < 2 ^ 31) : (nI l ≤ Int32.ofInt k) = ((l : Int) ≤ k) := by
  rw [Int32.le_iff_toInt_le, ofInt_toInt h1 h2, nI_toInt hl]
theorem ofInt_add1 (k : Int) : Int32.ofInt k + nI 1 = Int32.ofInt (k + 1) := by
  rw [show nI 1 = Int32.ofInt 1 from rfl, ← Int32.ofInt_add]
theorem free_c {t S R P r : Nat} {v0 : Nat → Int32} {wc : Wd} (ht : t ≤ 600) (hV : Vd t v0 S R P) (hC : Cp (wc 0) v0 S R P) (hr : r < R) : f_X6_hasFreeLine 0 wc (nI r) = some (if v0 (30 + 8 * r + 7) = v0 (30 + 8 * r + 6) then nI 0 else nI 1, wc) := by
  have hR := hV.1.2.1
  have eR : wc 0 3 6 = nI R := hC.1.2.1.trans hV.1.2.2.2.2.1
  obtain ⟨o, p, x, l, k, c, q1, q2, q3, q4, q5, q6, q7, q8, q9, q10, q11, q12, q13⟩ := rt_data hV hr
  obtain ⟨z1, z2, z3, z4, z5, z6⟩ := hC.2.2.2.2.1 r hr
  rw [f_X6_hasFreeLine, hasRt_T hR eR hr, if_neg (by decide), if_pos (ibT (by omega) (by omega)), if_pos (ibT (by omega) (by omega)), nI_clamp (by omega)]
  by_cases hf : k = l
  · rw [if_pos (by rw [z5, z6, q12, q13, ofInt_le (by omega) (by omega) (by omega)]; omega), if_pos (by rw [q12, q13, ofInt_nI (by omega) (by omega) (by omega)]; exact hf)]; rfl
  · rw [if_neg (by rw [z5, z6, q12, q13, ofInt_le (by omega) (by omega) (by omega)]; omega), if_neg (by rw [q12, q13, ofInt_nI (by omega) (by omega) (by omega)]; exact hf)]; rfl
theorem occ_Vd {t S R P r : Nat} {v : Nat → Int32} (ht : t ≤ 600) (hV : Vd t v S R P) (hr : r < R) (hf : ¬ v (30 + 8 * r + 7) = v (30 + 8 * r + 6)) : Vd t (upd v (30 + 8 * r + 7) (v (30 + 8 * r + 7) + nI 1)) S R P := by
  obtain ⟨⟨a1, a2, a3, a4, a5, a6⟩, b1, b2, b3, b4, b5, b6, b7, b8⟩ := hV
  generalize hy : v (30 + 8 * r + 7) + nI 1 = y
  have vne : ∀ j, j ≠ 30 + 8 * r + 7 → upd v (30 + 8 * r + 7) y j = v j := fun j h => upd_ne h
  refine ⟨⟨a1, a2, a3, ?_, ?_, ?_⟩, ?_, ?_, ?_, ?_, ?_, ?_, ptA a3 (Nat.le_refl _) (fun j h1 h2 => vne _ (by omega)) b7, clA (Nat.le_refl _) (fun j h1 h2 => vne _ (by omega)) b8⟩
  · rw [vne _ (by omega)]; exact a4
  · rw [vne _ (by omega)]; exact a5
  · rw [vne _ (by omega)]; exact a6
  · rw [vne _ (by omega)]; exact b1
  · rw [vne _ (by omega)]; exact b2
  · rw [vne _ (by omega), cntA (fun j h1 h2 => vne _ (by omega)) 10 (by omega)]; exact b3
  · intro s hs; rw [vne _ (by omega)]; exact b4 s hs
  · intro s hs; rw [vne _ (by omega)]; exact b5 s hs
  · intro r' hr'
    obtain ⟨o, p, x, l, k, c, q1, q2, q3, q4, q5, q6, q7, q8, q9, q10, q11, q12, q13⟩ := b6 r' hr'
    dsimp only at q8 q9 q10 q11 q12 q13
    by_cases hx : r' = r
    · subst hx
      have hkl : k ≠ l := by
        intro h
        apply hf
        rw [q12, q13, ofInt_nI (by omega) (by omega) (by omega)]; exact h
      refine ⟨o, p, x, l, k + 1, c, q1, q2, q3, q4, by omega, by omega, q7, ?_, ?_, ?_, ?_, ?_, ?_⟩
      · dsimp only; rw [vne _ (by omega)]; exact q8
      · dsimp only; rw [vne _ (by omega)]; exact q9
      · dsimp only; rw [vne _ (by omega)]; exact q10
      · intro b' hb'; dsimp only; rw [vne _ (by omega)]; exact q11 b' hb'
      · dsimp only; rw [vne _ (by omega)]; exact q12
      · dsimp only; rw [upd_eq, ← hy, q13, ofInt_add1]
    · refine ⟨o, p, x, l, k, c, q1, q2, q3, q4, q5, q6, q7, ?_, ?_, ?_, ?_, ?_, ?_⟩
      · dsimp only; rw [vne _ (by omega)]; exact q8
      · dsimp only; rw [vne _ (by omega)]; exact q9
      · dsimp only; rw [vne _ (by omega)]; exact q10
      · intro b' hb'; dsimp only; rw [vne _ (by omega)]; exact q11 b' hb'
      · dsimp only; rw [vne _ (by omega)]; exact q12
      · dsimp only; rw [vne _ (by omega)]; exact q13
theorem finish_spec {wc : Wd} {A A' : Nat} {y : Int32} (hA : A < A') (hA' : A' ≤ 30) (e : wc 7 12 2 = nI A') : f_X8_finish wc (nI A) y = some ((), wup wc 7 14 A y) := by
  have hh : p_X8_has wc (nI A) = 1 := by
    rw [p_X8_has, if_neg (nI_pos (by omega)), e, if_neg (by rw [nI_leI (by omega) (by omega)]; omega), if_neg (by rw [lit, nI_leI (by omega) (by omega)]; omega)]
  rw [f_X8_finish, hh, if_neg (by decide), if_pos (ibT (by omega) (by omega)), nI_clamp (by omega), letw]
theorem cServes {t S R P r : Nat} {v0 : Nat → Int32} {wc : Wd} (hV : Vd t v0 S R P) (hC : Cp (wc 0) v0 S R P) (hr : r < R) : f_X6_serves 0 wc (nI r) = some (if owv v0 r = nxv v0 r then nI 1 else nI 0, wc) := by
  have hS := hV.1.1
  have hR := hV.1.2.1
  have eR : wc 0 3 6 = nI R := hC.1.2.1.trans hV.1.2.2.2.2.1
  obtain ⟨q1, q2, q3, q4, q5, q6, q7, q8⟩ := rtv (b := 0) hV (by omega) hr
  obtain ⟨z1, z2, z3, z4, z5, z6⟩ := hC.2.2.2.2.1 r hr
  rw [f_X6_serves, hasRt_T hR eR hr, if_neg (by decide), if_pos (ibT (by omega) (by omega)), if_pos (ibT (by omega) (by omega)), nI_clamp (by omega), z1, z3, q5, q7]
  by_cases h : owv v0 r = nxv v0 r
  · rw [if_pos (by rw [h]), if_pos h]; rfl
  · rw [if_neg (by rw [nI_eq (by omega) (by omega)]; exact h), if_neg h]; rfl
def wc3 (wc : Wd) (A r d : Nat) : Wd := wup (wup (wup wc 7 13 A (nI r)) 7 12 2 (nI (A + 1))) 7 15 d (nI r)
def wm4 (wm : Wd) (A r d : Nat) : Wd := wup (wup (wup wm 8 10 d (nI A)) 8 11 A (nI r)) 8 0 15 (nI (A + 1))
def w8 (wm : Wd) (A r d : Nat) : Wd := wup (wm4 wm A r d) 8 1 (30 + 8 * r + 7) (wm 8 1 (30 + 8 * r + 7) + nI 1)
theorem wc3_Sk {wc : Wd} {A r d : Nat} : Sk d wc (wc3 wc A r d) := by
  unfold wc3
  refine ⟨fun g c h => ?_, fun c h => ?_, fun i h => ?_, fun e h => ?_⟩
  · rw [wup_row, if_neg (by omega), wup_row, if_neg (by omega), wup_row, if_neg (by omega)]
  · rw [wup_row, if_neg (by omega), wup_row, if_neg (by omega), wup_row, if_neg (by omega)]
  · rw [wup_at, if_neg (by omega), wup_at, if_neg (by omega), wup_at, if_neg (by omega)]
  · rw [wup_at, if_neg (by omega), wup_at, if_neg (by omega), wup_at, if_neg (by omega)]
theorem wm4_Sm {wm : Wd} {A r d : Nat} : Sm d wm (wm4 wm A r d) := by
  unfold wm4
  refine ⟨fun g c h => ?_, fun c h => ?_, fun i h5 h12 h15 => ?_, fun e h c hc => ?_, fun j h => ?_⟩
  · rw [wup_row, if_neg (by omega), wup_row, if_neg (by omega), wup_row, if_neg (by omega)]
  · rw [wup_row, if_neg (by omega), wup_row, if_neg (by omega), wup_row, if_neg (by omega)]
  · rw [wup_at, if_neg (by omega), wup_at, if_neg (by omega), wup_at, if_neg (by omega)]
  · rw [wup_at, if_neg (by omega), wup_at, if_neg (by omega), wup_at, if_neg (by omega)]
  · rw [wup_at, if_neg (by omega), wup_at, if_neg (by omega), wup_at, if_neg (by omega)]
theorem wm4_row {wm : Wd} {A r d : Nat} : wm4 wm A r d 8 1 = wm 8 1 := by
  unfold wm4; rw [wup_row, if_neg (by omega), wup_row, if_neg (by omega), wup_row, if_neg (by omega)]
theorem wm4_c {wm : Wd} {A r d c : Nat} (h : c = 5 ∨ c = 6 ∨ c = 7 ∨ c = 8 ∨ c = 9) : wm4 wm A r d 8 c = wm 8 c := by
  unfold wm4; rw [wup_row, if_neg (by omega), wup_row, if_neg (by omega), wup_row, if_neg (by omega)]
theorem wm4_12 {wm : Wd} {A r d : Nat} : wm4 wm A r d 8 0 12 = wm 8 0 12 := by
  unfold wm4; rw [wup_at, if_neg (by omega), wup_at, if_neg (by omega), wup_at, if_neg (by omega)]
theorem wm4_own {wm : Wd} {A r d : Nat} : wm4 wm A r d 8 10 d = nI A := by
  unfold wm4; rw [wup_at, if_neg (by omega), wup_at, if_neg (by omega), wup_at, if_pos ⟨rfl, rfl, rfl⟩]
theorem wm4_Fr {wm : Wd} {A r d a K i : Nat} {mk : Option Nat} {ls : Nat → Nat} (h : Fr wm d a mk K ls i) : Fr (wm4 wm A r d) d a mk K ls i := by
  unfold Fr
  rw [wm4_c (by omega), wm4_c (by omega), wm4_c (by omega), wm4_c (by omega), wm4_c (by omega)]
  exact h
theorem w8_Sm {wm : Wd} {A r d : Nat} : Sm d wm (w8 wm A r d) := by
  refine (wm4_Sm (A := A) (r := r)).trans ?_
  unfold w8
  refine ⟨fun g c h => ?_, fun c h => ?_, fun i h5 h12 h15 => ?_, fun e h c hc => ?_, fun j h => ?_⟩
  · rw [wup_row, if_neg (by omega)]
  · rw [wup_row, if_neg (by omega)]
  · rw [wup_at, if_neg (by omega)]
  · rw [wup_at, if_neg (by omega)]
  · rw [wup_at, if_neg (by omega)]
theorem w8_ne {wm : Wd} {A r d g c : Nat} (h : ¬ (g = 8 ∧ c = 1)) : w8 wm A r d g c = wm4 wm A r d g c := by
  unfold w8; rw [wup_row, if_neg h]
theorem w8_row {wm : Wd} {A r d : Nat} : w8 wm A r d 8 1 = upd (wm 8 1) (30 + 8 * r + 7) (wm 8 1 (30 + 8 * r + 7) + nI 1) := by
  unfold w8; rw [wup_row, if_pos ⟨rfl, rfl⟩, wm4_row]
theorem tc_begin {wc wm : Wd} {A r d : Nat} (hA : A < 30) (h : Tc d A wc wm) : Tc (d + 1) (A + 1) (wc3 wc A r d) (wm4 wm A r d) := by
  obtain ⟨h1, h2, h3, h4⟩ := h
  unfold wc3 wm4
  refine ⟨by omega, ?_, ?_, fun i hi => ⟨?_, ?_⟩⟩
  · rw [wup_at, if_neg (by omega), wup_at, if_pos ⟨rfl, rfl, rfl⟩]
  · rw [wup_at, if_pos ⟨rfl, rfl, rfl⟩]
  · by_cases hx : i = A
    · rw [wup_at, if_neg (by omega), wup_at, if_neg (by omega), wup_at, if_pos ⟨rfl, rfl, hx⟩, wup_at, if_neg (by omega), wup_at, if_pos ⟨rfl, rfl, hx⟩]
    · rw [wup_at, if_neg (by omega), wup_at, if_neg (by omega), wup_at, if_neg (by omega), wup_at, if_neg (by omega), wup_at, if_neg (by omega), wup_at, if_neg (by omega)]
      exact (h4 i (by omega)).1
  · by_cases hx : i = A
    · exact Or.inr ⟨d, by omega, by rw [wup_at, if_neg (by omega), wup_at, if_neg (by omega), wup_at, if_pos ⟨rfl, rfl, rfl⟩, hx]⟩
    · rcases (h4 i (by omega)).2 with h | ⟨j, j1, j2⟩
      · refine Or.inl ?_
        rw [wup_at, if_neg (by omega), wup_at, if_neg (by omega), wup_at, if_neg (by omega), wup_at, if_neg (by omega), wup_at, if_neg (by omega), wup_at, if_neg (by omega)]
        exact h
      · refine Or.inr ⟨j, by omega, ?_⟩
        rw [wup_at, if_neg (by omega), wup_at, if_neg (by omega), wup_at, if_neg (by omega)]
        exact j2
theorem Tc.keepm {d A : Nat} {wc wm wm' : Wd} (h : Tc d A wc wm) (h15 : wm' 8 0 15 = wm 8 0 15) (h11 : wm' 8 11 = wm 8 11) (h12 : wm' 8 12 = wm 8 12) (h10 : ∀ j, j < d → wm' 8 10 j = wm 8 10 j) : Tc d A wc wm' := by
  obtain ⟨h1, h2, h3, h4⟩ := h
  refine ⟨h1, h2, h15.trans h3, fun i hi => ?_⟩
  obtain ⟨a, b⟩ := h4 i hi
  rw [h11, h12]
  refine ⟨a, ?_⟩
  rcases b with b | ⟨j, j1, j2⟩
  · exact Or.inl b
  · exact Or.inr ⟨j, j1, by rw [h10 j j1]; exact j2⟩
theorem Tc.keepc {d A : Nat} {wc wc' wm : Wd} (h : Tc d A wc wm) (h12 : wc' 7 12 2 = wc 7 12 2) (h13 : wc' 7 13 = wc 7 13) (h14 : wc' 7 14 = wc 7 14) : Tc d A wc' wm := by
  obtain ⟨h1, h2, h3, h4⟩ := h
  exact ⟨h1, h12.trans h2, h3, fun i hi => by rw [h13, h14]; exact h4 i hi⟩
/-- the class writes a code at an entry whose frame is open -/
theorem Tc.fin {d A A0 j : Nat} {wc wm : Wd} {y : Int32} (h : Tc d A wc wm) (hj : j < d) (eo : wm 8 10 j = nI A0) : Tc d A (wup wc 7 14 A0 y) wm := by
  obtain ⟨h1, h2, h3, h4⟩ := h
  refine ⟨h1, by rw [wup_at, if_neg (by omega)]; exact h2, h3, fun i hi => ⟨by rw [wup_at, if_neg (by omega)]; exact (h4 i hi).1, ?_⟩⟩
  by_cases hx : i = A0
  · exact Or.inr ⟨j, hj, by rw [eo, hx]⟩
  · rw [wup_at, if_neg (by omega)]; exact (h4 i hi).2
/-- the model too: the frame is closed -/
theorem Tc.close {d A A0 : Nat} {wc wm : Wd} {y : Int32} (h : Tc (d + 1) A wc wm) (eo : wm 8 10 d = nI A0) (hA : A0 < 30) (ec : wc 7 14 A0 = y) : Tc d A wc (wup wm 8 12 A0 y) := by
  obtain ⟨h1, h2, h3, h4⟩ := h
  refine ⟨h1, h2, by rw [wup_at, if_neg (by omega)]; exact h3, fun i hi => ⟨by rw [wup_at, if_neg (by omega)]; exact (h4 i hi).1, ?_⟩⟩
  by_cases hx : i = A0
  · refine Or.inl ?_
    rw [wup_at, if_pos ⟨rfl, rfl, hx⟩, hx]; exact ec
  · rcases (h4 i hi).2 with h | ⟨j, j1, j2⟩
    · exact Or.inl (by rw [wup_at, if_neg (by omega)]; exact h)
    · refine Or.inr ⟨j, ?_, by rw [wup_at, if_neg (by omega)]; exact j2⟩
      by_cases hjd : j = d
      · rw [hjd, eo, nI_eq (by omega) (by omega)] at j2; omega
      · omega
