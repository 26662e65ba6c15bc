theorem bit_or : ∀ L, L < 256 → ∀ s, s < 8 → (nI L ||| (nI 1 <<< (nI s &&& nI 31))) = nI (L ||| 2 ^ s) ∧ L ||| 2 ^ s < 256 := by decide +kernel
theorem bit_clr : ∀ L, L < 256 → ∀ s, s < 8 → (nI L &&& ((nI 1 <<< (nI s &&& nI 31)) ^^^ -nI 1)) = nI (L &&& (255 - 2 ^ s)) ∧ L &&& (255 - 2 ^ s) < 256 := by decide +kernel
theorem bit_tst : ∀ L, L < 256 → ∀ s, s < 8 → ((nI L >>> (nI s &&& nI 31)) &&& nI 1) = if L.testBit s then nI 1 else nI 0 := by decide +kernel
theorem tb_or : ∀ L, L < 256 → ∀ s, s < 8 → ∀ j, j < 8 → (L ||| 2 ^ s).testBit j = (L.testBit j || decide (j = s)) := by decide +kernel
theorem tb_clr : ∀ L, L < 256 → ∀ s, s < 8 → ∀ j, j < 8 → (L &&& (255 - 2 ^ s)).testBit j = (L.testBit j && !decide (j = s)) := by decide +kernel
theorem looks_spec {n S s : Nat} {v : Nat → Int32} {w : Wd} (hS : S ≤ 8) (hw : w n 0 5 = nI S) (hL : cL (w n) v S) (hs : s < S) : p_X4_looksUp n w (nI s) = if v (10 + s) = nI 1 then nI 1 else nI 0 := by
  obtain ⟨L, l1, l2, l3⟩ := hL
  have h1 := bit_tst L l1 s (by omega)
  rw [p_X4_looksUp, hasSw_T hS hw hs, l2]
  have h2 := l3 s (by omega)
  by_cases hv : v (10 + s) = nI 1
  · rw [if_pos hv]
    have h3 : L.testBit s = true := by rw [h2]; simp [hv, hs]
    rw [h3] at h1
    simp (disch := omega) only [lit, if_true, if_false, nI_leI, nI_ltI, nI_eq, nI_neg, nI_neg', nI_negE, ng_lt, ng_le, ng_nlt, ng_nle, ib_nI, nI_clamp, nI_add, nI_mul, nI_sub, nI_nn, if_pos, if_neg, decide_eq_true_eq, letw, leti, letl, Option.bind_some, nI_rem, h1]
  · rw [if_neg hv]
    have h3 : L.testBit s = false := by rw [h2]; simp [hv]
    rw [h3] at h1
    simp only [Bool.false_eq_true, if_false] at h1
    simp (disch := omega) only [lit, if_true, if_false, nI_leI, nI_ltI, nI_eq, nI_neg, nI_neg', nI_negE, ng_lt, ng_le, ng_nlt, ng_nle, ib_nI, nI_clamp, nI_add, nI_mul, nI_sub, nI_nn, if_pos, if_neg, decide_eq_true_eq, letw, leti, letl, Option.bind_some, nI_rem, h1]
theorem op_setLookup {t : Nat} {w : Wd} (H : Inv t w) (x1 x2 : Int32) : ∃ r w1 w2, f_X9_setLookup w x1 x2 = some (r, w1) ∧ f_X10_setLookup w1 x1 x2 = some (r, w2) ∧ Inv t w2 := by
  obtain ⟨S, R, P, hV, hC⟩ := H.now
  have hS := hV.1.1
  have eS : w 0 0 5 = nI S := hC.1.1.trans hV.1.2.2.2.1
  rcases rl x1 S with ⟨s, hs, rfl⟩ | h
  · obtain ⟨w1, p1, p2, p3, p4⟩ := act_push H
    have e1 : w1 0 0 5 = nI S := by rw [p3]; exact eS
    have hlk := looks_spec (w := w1) (n := 0) hS e1 (by rw [p3]; exact hC.2.1) hs
    have hv01 := hV.2.2.2.2.1 s hs
    -- the new bits, the new number
    obtain ⟨L, l1, l2, l3⟩ := hC.2.1
    have key : ∃ (M b : Nat), M < 256 ∧ b < 2 ∧ (∀ j, j < 8 → M.testBit j = if j = s then decide (b = 1) else L.testBit j) ∧ f_X4_changeLookup 0 w1 (nI s) x2 = some ((), wup w1 0 0 6 (nI M)) ∧ ∀ w, f_X10_setLookup w (nI s) x2 = (f_X10_isSwitch w (nI s)).bind fun q1 => if q1.1 = 0 then some (-1, q1.2) else (f_X10_sets q1.2 (10 + nI s) (nI b)).bind fun q2 => some (q2.1, q2.2) := by
      by_cases hx : x2 = 0
      · refine ⟨L &&& (255 - 2 ^ s), 0, (bit_clr L l1 s (by omega)).2, by omega, fun j hj => ?_, ?_, fun w => ?_⟩
        · rw [tb_clr L l1 s (by omega) j hj]
          by_cases hjs : j = s <;> simp [hjs]
        · rw [f_X4_changeLookup, hx, p3, l2]
          simp (disch := omega) only [lit, if_true, if_false, nI_leI, nI_ltI, nI_eq, nI_neg, nI_neg', nI_negE, ng_lt, ng_le, ng_nlt, ng_nle, ib_nI, nI_clamp, nI_add, nI_mul, nI_sub, nI_nn, if_pos, if_neg, decide_eq_true_eq, letw, leti, letl, Option.bind_some, nI_rem, hasSw_T hS e1 hs, (bit_clr L l1 s (by omega)).1]
        · rw [f_X10_setLookup, hx]
          simp only [if_true]
          rfl
      · refine ⟨L ||| 2 ^ s, 1, (bit_or L l1 s (by omega)).2, by omega, fun j hj => ?_, ?_, fun w => ?_⟩
        · rw [tb_or L l1 s (by omega) j hj]
          by_cases hjs : j = s <;> simp [hjs]
        · rw [f_X4_changeLookup, p3, l2]
          simp only [hx, if_false]
          simp (disch := omega) only [lit, if_true, if_false, nI_leI, nI_ltI, nI_eq, nI_neg, nI_neg', nI_negE, ng_lt, ng_le, ng_nlt, ng_nle, ib_nI, nI_clamp, nI_add, nI_mul, nI_sub, nI_nn, if_pos, if_neg, decide_eq_true_eq, letw, leti, letl, Option.bind_some, nI_rem, hasSw_T hS e1 hs, (bit_or L l1 s (by omega)).1]
        · rw [f_X10_setLookup]
          simp only [hx, if_false]
          rfl
    obtain ⟨M, b, m1, m2, m3, m4, m5⟩ := key
    obtain ⟨w2, k1, k2, k3, k4⟩ := act_keep (wc := wup w1 0 0 6 (nI M)) H (by funext c; rw [wup_row, if_neg (by omega), p4])
    refine ⟨w 8 1 (10 + s), wup w1 0 0 6 (nI M), wup w2 8 1 (10 + s) (nI b), ?_, ?_, ?_⟩
    · rw [f_X9_setLookup]
      simp (disch := omega) only [lit, if_true, if_false, nI_leI, nI_ltI, nI_eq, nI_neg, nI_neg', nI_negE, ng_lt, ng_le, ng_nlt, ng_nle, ib_nI, nI_clamp, nI_add, nI_mul, nI_sub, nI_nn, if_pos, if_neg, decide_eq_true_eq, letw, leti, letl, Option.bind_some, nI_rem, hasSw_T hS eS hs, p1, hlk, m4]
      rcases hv01 with e | e <;> rw [e] <;> simp (disch := omega) only [lit, if_true, if_false, nI_leI, nI_ltI, nI_eq, nI_neg, nI_neg', nI_negE, ng_lt, ng_le, ng_nlt, ng_nle, ib_nI, nI_clamp, nI_add, nI_mul, nI_sub, nI_nn, if_pos, if_neg, decide_eq_true_eq, letw, leti, letl, Option.bind_some, nI_rem]
    · rw [m5]
      have e2 := isSw_T (w := wup w1 0 0 6 (nI M)) hS (by rw [wup_row, if_neg (by omega), p4]; exact hV.1.2.2.2.1) hs
      simp (disch := omega) only [lit, if_true, if_false, nI_leI, nI_ltI, nI_eq, nI_neg, nI_neg', nI_negE, ng_lt, ng_le, ng_nlt, ng_nle, ib_nI, nI_clamp, nI_add, nI_mul, nI_sub, nI_nn, if_pos, if_neg, decide_eq_true_eq, letw, leti, letl, Option.bind_some, nI_rem, e2, f_X10_sets, k1, k3]
    · have eN : ∀ c i, wup w2 8 1 (10 + s) (nI b) 0 c i = if c = 0 ∧ i = 6 then nI M else w 0 c i := by
        intro c i
        rw [wup_row, if_neg (by omega), k4 0 (by omega), wup_at, p3]
        simp
      have eV : wup w2 8 1 (10 + s) (nI b) 8 1 = upd (w 8 1) (10 + s) (nI b) := by rw [wup_row, if_pos (by omega), k3]
      refine act_inv H p2 (fun g c hg => by rw [wup_row, if_neg (by omega)]) k2 (fun g c hg => by rw [wup_row, if_neg hg]) (Nat.le_refl t) H.1 ⟨S, R, P, ?_, ?_⟩
      · rw [eV]
        obtain ⟨⟨a1, a2, a3, a4, a5, a6⟩, b1, b2, b3, b4, b5, b6, b7, b8⟩ := hV
        refine ⟨⟨a1, a2, a3, by rw [upd_ne (by omega)]; exact a4, by rw [upd_ne (by omega)]; exact a5, by rw [upd_ne (by omega)]; exact a6⟩, by rw [upd_ne (by omega)]; exact b1, by rw [upd_ne (by omega)]; exact b2, ?_, ?_, ?_, rtA a2 (Nat.le_refl _) (Nat.le_refl _) (fun j h1 h2 => upd_ne (by omega)) b6, ptA a3 (Nat.le_refl _) (fun j h1 h2 => upd_ne (by omega)) b7, clA (Nat.le_refl _) (fun j h1 h2 => upd_ne (by omega)) b8⟩
        · rw [upd_ne (by omega), cntA (fun j h1 h2 => upd_ne (by omega)) 10 (by omega)]; exact b3
        · intro s' hs'
          by_cases hx : s' = s
          · subst hx
            rw [upd_eq]
            rcases (show b = 0 ∨ b = 1 by omega) with e | e <;> rw [e]
            · exact Or.inl rfl
            · exact Or.inr rfl
          · rw [upd_ne (by omega)]; exact b4 s' hs'
        · intro s hs; rw [upd_ne (by omega)]; exact b5 s hs
      · rw [eV]
        obtain ⟨⟨a1, a2, a3, a4, a5, a6⟩, -, b1, b2, b3, b4, b5⟩ := hC
        refine ⟨⟨?_, ?_, ?_, ?_, ?_, ?_⟩, ⟨M, m1, ?_, ?_⟩, ?_, ?_, cRA hV.1.2.1 (fun c i h1 h2 => ?_) (fun j h1 h2 => upd_ne (by omega)) b3, cPA hV.1.2.2.1 (fun c i h1 h2 => ?_) (fun j h1 h2 => upd_ne (by omega)) b4, cCA (fun c i h1 h2 => ?_) (fun j h1 h2 => upd_ne (by omega)) b5⟩
        · rw [eN, if_neg (by omega), upd_ne (by omega)]; exact a1
        · rw [eN, if_neg (by omega), upd_ne (by omega)]; exact a2
        · rw [eN, if_neg (by omega), upd_ne (by omega)]; exact a3
        · rw [eN, if_neg (by omega), upd_ne (by omega)]; exact a4
        · rw [eN, if_neg (by omega), upd_ne (by omega)]; exact a5
        · rw [eN, if_neg (by omega), upd_ne (by omega)]; exact a6
        · rw [eN, if_pos (by omega)]
        · intro j hj
          rw [m3 j hj]
          by_cases hjs : j = s
          · subst hjs
            rw [if_pos rfl, upd_eq]
            rcases (show b = 0 ∨ b = 1 by omega) with e | e <;> subst e
            · have : ¬ (nI 0 = nI 1) := by decide
              simp [this]
            · simp [hs]
          · rw [if_neg hjs, upd_ne (by omega)]
            exact l3 j hj
        · intro s hs; rw [eN, if_neg (by omega), upd_ne (by omega)]; exact b1 s hs
        · intro s hs; rw [eN, if_neg (by omega), upd_ne (by omega)]; exact b2 s hs
        · rw [eN, if_neg (by omega)]
        · rw [eN, if_neg (by omega)]
        · rw [eN, if_neg (by omega)]
  · refine ⟨-1, w, w, ?_, ?_, H⟩
    · rw [f_X9_setLookup]
      simp (disch := omega) only [lit, if_true, if_false, nI_leI, nI_ltI, nI_eq, nI_neg, nI_neg', nI_negE, ng_lt, ng_le, ng_nlt, ng_nle, ib_nI, nI_clamp, nI_add, nI_mul, nI_sub, nI_nn, if_pos, if_neg, decide_eq_true_eq, letw, leti, letl, Option.bind_some, nI_rem, hasSw_F hS eS h]
    · rw [f_X10_setLookup]
      simp (disch := omega) only [lit, if_true, if_false, nI_leI, nI_ltI, nI_eq, nI_neg, nI_neg', nI_negE, ng_lt, ng_le, ng_nlt, ng_nle, ib_nI, nI_clamp, nI_add, nI_mul, nI_sub, nI_nn, if_pos, if_neg, decide_eq_true_eq, letw, leti, letl, Option.bind_some, nI_rem, isSw_F hS hV.1.2.2.2.1 h]
theorem op_addSwitch {t : Nat} {w : Wd} (H : Inv t w) : ∃ r w1 w2, f_X9_addSwitch w = some (r, w1) ∧ f_X10_addSwitch w1 = some (r, w2) ∧ Inv t w2 := by
  obtain ⟨S, R, P, hV, hC⟩ := H.now
  have hS := hV.1.1
  have eS : w 0 0 5 = nI S := hC.1.1.trans hV.1.2.2.2.1
  have eS8 : w 8 1 0 = nI S := hV.1.2.2.2.1
  by_cases h8 : S < 8
  · obtain ⟨w1, p1, p2, p3, p4⟩ := act_push H
    have e1 : w1 0 0 5 = nI S := by rw [p3]; exact eS
    obtain ⟨w2, k1, k2, k3, k4⟩ := act_keep (wc := wup (wup w1 0 1 S (nI 30)) 0 0 5 (nI (S + 1))) H (by funext c; rw [wup_row, if_neg (by omega), wup_row, if_neg (by omega), p4])
    have e81 : wup (wup w1 0 1 S (nI 30)) 0 0 5 (nI (S + 1)) 8 1 0 = nI S := by rw [wup_row, if_neg (by omega), wup_row, if_neg (by omega), p4]; exact eS8
    have e82 : w2 8 1 0 = nI S := by rw [k3]; exact eS8
    refine ⟨nI S, wup (wup w1 0 1 S (nI 30)) 0 0 5 (nI (S + 1)), wup (wup (wup w2 8 1 (10 + S) (nI 0)) 8 1 (18 + S) (nI 30)) 8 1 0 (nI (S + 1)), ?_, ?_, ?_⟩
    · rw [f_X9_addSwitch]
      simp (disch := omega) only [lit, if_true, if_false, nI_leI, nI_ltI, nI_eq, nI_neg, nI_neg', nI_negE, ng_lt, ng_le, ng_nlt, ng_nle, ib_nI, nI_clamp, nI_add, nI_mul, nI_sub, nI_nn, if_pos, if_neg, decide_eq_true_eq, letw, leti, letl, Option.bind_some, nI_rem, p_X4_switchCount, eS, p1, f_X4_putSwitch, e1]
    · rw [f_X10_addSwitch]
      simp (disch := omega) only [lit, if_true, if_false, nI_leI, nI_ltI, nI_eq, nI_neg, nI_neg', nI_negE, ng_lt, ng_le, ng_nlt, ng_nle, ib_nI, nI_clamp, nI_add, nI_mul, nI_sub, nI_nn, if_pos, if_neg, decide_eq_true_eq, letw, leti, letl, Option.bind_some, nI_rem, e81, k1, e82, wup_at]
      simp (disch := omega) only [lit, if_true, if_false, nI_leI, nI_ltI, nI_eq, nI_neg, nI_neg', nI_negE, ng_lt, ng_le, ng_nlt, ng_nle, ib_nI, nI_clamp, nI_add, nI_mul, nI_sub, nI_nn, if_pos, if_neg, decide_eq_true_eq, letw, leti, letl, Option.bind_some, nI_rem, and_self]
      rfl
    · have eN : ∀ c i, wup (wup (wup w2 8 1 (10 + S) (nI 0)) 8 1 (18 + S) (nI 30)) 8 1 0 (nI (S + 1)) 0 c i = if c = 0 ∧ i = 5 then nI (S + 1) else if c = 1 ∧ i = S then nI 30 else w 0 c i := by
        intro c i
        rw [wup_row, if_neg (by omega), wup_row, if_neg (by omega), wup_row, if_neg (by omega), k4 0 (by omega), wup_at, wup_at, p3]
        simp
      have eV : wup (wup (wup w2 8 1 (10 + S) (nI 0)) 8 1 (18 + S) (nI 30)) 8 1 0 (nI (S + 1)) 8 1 = upd (upd (upd (w 8 1) (10 + S) (nI 0)) (18 + S) (nI 30)) 0 (nI (S + 1)) := by
        rw [wup_row, if_pos (by omega), wup_row, if_pos (by omega), wup_row, if_pos (by omega), k3]
      have vne : ∀ j, j ≠ 0 → j ≠ 18 + S → j ≠ 10 + S → upd (upd (upd (w 8 1) (10 + S) (nI 0)) (18 + S) (nI 30)) 0 (nI (S + 1)) j = w 8 1 j := fun j a b c => by rw [upd_ne a, upd_ne b, upd_ne c]
      refine act_inv H p2 (fun g c hg => by rw [wup_row, if_neg (by omega), wup_row, if_neg (by omega)]) k2 (fun g c hg => by rw [wup_row, if_neg hg, wup_row, if_neg hg, wup_row, if_neg hg]) (Nat.le_refl t) H.1 ⟨S + 1, R, P, ?_, ?_⟩
      · rw [eV]
        obtain ⟨⟨a1, a2, a3, a4, a5, a6⟩, b1, b2, b3, b4, b5, b6, b7, b8⟩ := hV
        refine ⟨⟨by omega, a2, a3, upd_eq, by rw [vne _ (by omega) (by omega) (by omega)]; exact a5, by rw [vne _ (by omega) (by omega) (by omega)]; exact a6⟩, by rw [vne _ (by omega) (by omega) (by omega)]; exact b1, by rw [vne _ (by omega) (by omega) (by omega)]; exact b2, ?_, ?_, ?_, rtA a2 (Nat.le_refl _) (by omega) (fun j h1 h2 => vne _ (by omega) (by omega) (by omega)) b6, ptA a3 (by omega) (fun j h1 h2 => vne _ (by omega) (by omega) (by omega)) b7, clA (Nat.le_refl _) (fun j h1 h2 => vne _ (by omega) (by omega) (by omega)) b8⟩
        · rw [vne _ (by omega) (by omega) (by omega), cntA (fun j h1 h2 => vne _ (by omega) (by omega) (by omega)) 10 (by omega)]; exact b3
        · intro s' hs'
          by_cases hx : s' = S
          · subst hx
            rw [upd_ne (by omega), upd_ne (by omega), upd_eq]
            exact Or.inl rfl
          · rw [vne _ (by omega) (by omega) (by omega)]; exact b4 s' (by omega)
        · intro s' hs'
          by_cases hx : s' = S
          · subst hx
            rw [upd_ne (by omega), upd_eq]
            exact ⟨30, by omega, by omega, rfl⟩
          · rw [vne _ (by omega) (by omega) (by omega)]; exact b5 s' (by omega)
      · rw [eV]
        obtain ⟨⟨a1, a2, a3, a4, a5, a6⟩, ⟨L, l1, l2, l3⟩, b1, b2, b3, b4, b5⟩ := hC
        refine ⟨⟨?_, ?_, ?_, ?_, ?_, ?_⟩, ⟨L, l1, ?_, ?_⟩, ?_, ?_, cRA hV.1.2.1 (fun c i h1 h2 => ?_) (fun j h1 h2 => vne _ (by omega) (by omega) (by omega)) b3, cPA hV.1.2.2.1 (fun c i h1 h2 => ?_) (fun j h1 h2 => vne _ (by omega) (by omega) (by omega)) b4, cCA (fun c i h1 h2 => ?_) (fun j h1 h2 => vne _ (by omega) (by omega) (by omega)) b5⟩
        · rw [eN, if_pos (by omega), upd_eq]
        · rw [eN, if_neg (by omega), if_neg (by omega), vne _ (by omega) (by omega) (by omega)]; exact a2
        · rw [eN, if_neg (by omega), if_neg (by omega), vne _ (by omega) (by omega) (by omega)]; exact a3
        · rw [eN, if_neg (by omega), if_neg (by omega), vne _ (by omega) (by omega) (by omega)]; exact a4
        · rw [eN, if_neg (by omega), if_neg (by omega), vne _ (by omega) (by omega) (by omega)]; exact a5
        · rw [eN, if_neg (by omega), if_neg (by omega), vne _ (by omega) (by omega) (by omega)]; exact a6
        · rw [eN, if_neg (by omega), if_neg (by omega)]; exact l2
        · intro j hj
          rw [l3 j hj]
          by_cases hjs : j = S
          · subst hjs
            rw [upd_ne (by omega), upd_ne (by omega), upd_eq]
            have : ¬ (nI 0 = nI 1) := by decide
            simp [this]
          · rw [vne _ (by omega) (by omega) (by omega)]
            exact decide_eq_decide.mpr ⟨fun q => ⟨by omega, q.2⟩, fun q => ⟨by omega, q.2⟩⟩
        · intro s' hs'
          by_cases hx : s' = S
          · subst hx
            rw [eN, if_neg (by omega), if_pos (by omega), upd_ne (by omega), upd_eq]
          · rw [eN, if_neg (by omega), if_neg (by omega), vne _ (by omega) (by omega) (by omega)]; exact b1 s' (by omega)
        · intro s hs; rw [eN, if_neg (by omega), if_neg (by omega), vne _ (by omega) (by omega) (by omega)]; exact b2 s hs
        · rw [eN, if_neg (by omega), if_neg (by omega)]
        · rw [eN, if_neg (by omega), if_neg (by omega)]
        · rw [eN, if_neg (by omega), if_neg (by omega)]
  · have h8 : S = 8 := by omega
    subst h8
    refine ⟨-3, w, w, ?_, ?_, H⟩
    · rw [f_X9_addSwitch]
      simp (disch := omega) only [lit, if_true, if_false, nI_leI, nI_ltI, nI_eq, nI_neg, nI_neg', nI_negE, ng_lt, ng_le, ng_nlt, ng_nle, ib_nI, nI_clamp, nI_add, nI_mul, nI_sub, nI_nn, if_pos, if_neg, decide_eq_true_eq, letw, leti, letl, Option.bind_some, nI_rem, p_X4_switchCount, eS]
    · rw [f_X10_addSwitch]
      simp (disch := omega) only [lit, if_true, if_false, nI_leI, nI_ltI, nI_eq, nI_neg, nI_neg', nI_negE, ng_lt, ng_le, ng_nlt, ng_nle, ib_nI, nI_clamp, nI_add, nI_mul, nI_sub, nI_nn, if_pos, if_neg, decide_eq_true_eq, letw, leti, letl, Option.bind_some, nI_rem, eS8]
