theorem TR.congr {w w' : Wd} (h7 : w' 7 3 7 = w 7 3 7) (h19 : w' 8 0 19 = w 8 0 19) (h4 : w' 7 4 = w 7 4) (h14 : w' 8 14 = w 8 14) (H : TR w) : TR w' := by
  obtain ⟨L, l1, l2, l3, l4⟩ := H
  exact ⟨L, l1, h7.trans l2, h19.trans l3, fun i hi => by rw [h4, h14]; exact l4 i hi⟩
theorem AR'.congr {w w' : Wd} (h7 : w' 7 12 2 = w 7 12 2) (h15 : w' 8 0 15 = w 8 0 15) (h13 : w' 7 13 = w 7 13) (h14 : w' 7 14 = w 7 14) (h11 : w' 8 11 = w 8 11) (h12 : w' 8 12 = w 8 12) (H : AR' w) : AR' w' := by
  obtain ⟨A, l1, l2, l3, l4⟩ := H
  exact ⟨A, l1, h7.trans l2, h15.trans l3, fun i hi => by rw [h13, h14, h11, h12]; exact l4 i hi⟩
/-- the model's world behind undo -/
def undoM (w : Wd) (D : Nat) : Wd := wr (wup w 8 0 3 (nI D)) 8 1 (fun j => if 0 ≤ j ∧ j < 640 then (wup w 8 0 3 (nI D)) 8 3 (640 * D + j) else (wup w 8 0 3 (nI D)) 8 1 j)
theorem undoM_row (w : Wd) (D g c : Nat) (h1 : ¬ (g = 8 ∧ c = 1)) (h2 : ¬ (g = 8 ∧ c = 0)) : undoM w D g c = w g c := by
  rw [undoM, wr_at, if_neg h1, wup_row, if_neg h2]
theorem undoM_8 (w : Wd) (D i : Nat) : undoM w D 8 0 i = if i = 3 then nI D else w 8 0 i := by
  rw [undoM, wr_at, if_neg (by omega), wup_row, if_pos (by omega), upd_at]
theorem undoM_v (w : Wd) (D j : Nat) (hj : j < 640) : undoM w D 8 1 j = w 8 3 (640 * D + j) := by
  rw [undoM, wr_at, if_pos (by omega)]
  simp only [if_pos (show 0 ≤ j ∧ j < 640 by omega)]
  rw [wup_row, if_neg (by omega)]
theorem undo_m {w : Wd} {D : Nat} (hD : D < 5) (h3 : w 8 0 3 = nI (D + 1)) : f_X10_undo w = some (nI D, undoM w D) := by
  have h8 : (wup w 8 0 3 (nI D)) 8 0 3 = nI D := by rw [wup_at, if_pos (by omega)]
  rw [f_X10_undo, h3, if_neg (by rw [lit]; exact fun q => absurd ((nI_eq (by omega) (by omega)).mp q) (by omega)), lit, nI_sub (by omega), Nat.add_sub_cancel, lit]
  exact undo_loop D hD 640 0 FU _ h8 rfl (by omega) (by rw [FU_eq]; omega)
theorem undo_c {w : Wd} {F D : Nat} (hF : F < 5) (hD : D < 5) (h1 : w 7 1 1 = nI F) (h2 : w 7 1 2 = nI (D + 1)) : ∃ w', f_X9_undo w = some (nI D, w') ∧ (∀ g c, g ≠ 0 → ¬ (g = 7 ∧ c = 1) → w' g c = w g c) ∧ (∀ i, i ≠ 2 → w' 7 1 i = w 7 1 i) ∧ w' 7 1 2 = nI D ∧ NEq (w' 0) (w (2 + (F + D) % 5)) := by
  have hm : (F + D) % 5 < 5 := Nat.mod_lt _ (by omega)
  obtain ⟨w', c1, c2, c3⟩ := copy_spec (n := 0) (n2 := 2 + (F + D) % 5) (wup w 7 1 2 (nI D)) (by omega)
  have hw72 : w' 7 1 2 = nI D := by rw [c2 7 1 (by omega), wup_at, if_pos (by omega)]
  refine ⟨w', ?_, ?_, ?_, hw72, ?_⟩
  · rw [f_X9_undo, f_X2_pop, h2, if_neg (by rw [lit]; exact fun q => absurd ((nI_eq (by omega) (by omega)).mp q) (by omega)), lit, nI_sub (by omega), Nat.add_sub_cancel, letw, wup_at, if_pos (by omega)]
    rw [stateAt_spec hF (by omega) (by rw [wup_at, if_neg (by omega)]; exact h1)]
    simp only [Option.bind_some, if_pos (show 2 + (F + D) % 5 < 7 by omega), c1]
    simp (disch := omega) only [lit, if_true, if_false, nI_leI, nI_ltI, nI_eq, nI_neg, nI_neg', nI_negE, ng_lt, ng_le, ng_nlt, ng_nle, ib_nI, nI_clamp, nI_add, nI_mul, nI_sub, nI_nn, if_pos, if_neg, decide_eq_true_eq, letw, leti, letl, Option.bind_some, nI_rem, p_X2_size]
    rw [hw72]
  · intro g c hg hgc
    rw [c2 g c hg, wup_row, if_neg hgc]
  · intro i hi
    rw [c2 7 1 (by omega), wup_at, if_neg (by omega)]
  · intro c i hr
    rw [c3 c i hr, wup_at, if_neg (by omega)]
theorem op_undo {t : Nat} {w : Wd} (H : Inv t w) : ∃ r w1 w2, f_X9_undo w = some (r, w1) ∧ f_X10_undo w1 = some (r, w2) ∧ Inv t w2 := by
  obtain ⟨ht, hN, ⟨F, C, hF, hC, h1, h2, h3, h4⟩, hT, hA⟩ := H
  by_cases hc : C = 0
  · subst hc
    refine ⟨-9, w, w, ?_, ?_, ht, hN, ⟨F, 0, hF, hC, h1, h2, h3, h4⟩, hT, hA⟩
    · rw [f_X9_undo, f_X2_pop, h2, if_pos (show nI 0 = (0 : Int32) from rfl), Option.bind_some, if_pos (show (0 : Int32) = 0 from rfl)]
    · rw [f_X10_undo, h3, if_pos (show nI 0 = (0 : Int32) from rfl)]
  · obtain ⟨D, rfl⟩ : ∃ D, C = D + 1 := ⟨C - 1, by omega⟩
    obtain ⟨w', e1, hw', hw7, hw72, hq⟩ := undo_c hF (by omega) h1 h2
    have e2 := undo_m (w := w') (D := D) (by omega) (by rw [hw' 8 0 (by omega) (by omega)]; exact h3)
    have fr : ∀ g c, g ≠ 0 → ¬ (g = 7 ∧ c = 1) → ¬ (g = 8 ∧ c = 1) → ¬ (g = 8 ∧ c = 0) → undoM w' D g c = w g c := fun g c a b d e => (undoM_row w' D g c d e).trans (hw' g c a b)
    have fr8 : ∀ i, i ≠ 3 → undoM w' D 8 0 i = w 8 0 i := fun i hi => by rw [undoM_8, if_neg hi, hw' 8 0 (by omega) (by omega)]
    refine ⟨_, _, _, e1, e2, ht, ?_, ⟨F, D, hF, by omega, ?_, ?_, ?_, fun i hi => ?_⟩, ?_, ?_⟩
    · refine (h4 D (by omega)).congr (fun c i hr => ?_) (fun j hj => ?_)
      · rw [undoM_row w' D 0 c (by omega) (by omega)]
        exact hq c i hr
      · rw [undoM_v w' D j hj, hw' 8 3 (by omega) (by omega)]
    · rw [undoM_row w' D 7 1 (by omega) (by omega), hw7 1 (by omega), h1]
    · rw [undoM_row w' D 7 1 (by omega) (by omega), hw72]
    · rw [undoM_8, if_pos rfl]
    · have hm : (F + i) % 5 < 5 := Nat.mod_lt _ (by omega)
      refine (h4 i (by omega)).congr (fun c j hr => ?_) (fun j hj => ?_)
      · rw [fr _ c (by omega) (by omega) (by omega) (by omega)]
      · rw [fr 8 3 (by omega) (by omega) (by omega) (by omega)]
    · exact hT.congr (by rw [fr 7 3 (by omega) (by omega) (by omega) (by omega)]) (fr8 19 (by omega)) (fr 7 4 (by omega) (by omega) (by omega) (by omega)) (fr 8 14 (by omega) (by omega) (by omega) (by omega))
    · exact hA.congr (by rw [fr 7 12 (by omega) (by omega) (by omega) (by omega)]) (fr8 15 (by omega)) (fr 7 13 (by omega) (by omega) (by omega) (by omega)) (fr 7 14 (by omega) (by omega) (by omega) (by omega)) (fr 8 11 (by omega) (by omega) (by omega) (by omega)) (fr 8 12 (by omega) (by omega) (by omega) (by omega))
