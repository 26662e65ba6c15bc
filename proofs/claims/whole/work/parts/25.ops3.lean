theorem op_pass {t : Nat} {w : Wd} (H : Inv t w) (x : Int32) : ∃ r w1 w2, f_X9_pass w x = some (r, w1) ∧ f_X10_pass w1 x = some (r, w2) ∧ Inv t w2 := by
  obtain ⟨S, R, P, hV, hC⟩ := H.now
  obtain ⟨T, hT, eT⟩ := hV.2.2.1
  have e8 : w 0 0 8 = nI T := hC.1.2.2.2.2.1.trans eT
  rcases rg x 1 10080 with ⟨k, h1, h2, rfl⟩ | h
  · by_cases hk : T + k ≤ 1000000
    · obtain ⟨w1, p1, p2, p3, p4⟩ := act_push H
      obtain ⟨w2, k1, k2, k3, k4⟩ := act_keep (wc := wup w1 0 0 8 (nI (T + k))) H (by funext c; rw [wup_row, if_neg (by omega), p4])
      have e41 : wup w1 0 0 8 (nI (T + k)) 8 1 4 = nI T := by rw [wup_row, if_neg (by omega), p4]; exact eT
      refine ⟨nI (T + k), wup w1 0 0 8 (nI (T + k)), wup w2 8 1 4 (nI (T + k)), ?_, ?_, ?_⟩
      · rw [f_X9_pass, in_same, lit, lit, in_T h1 h2 (by omega)]
        simp (disch := omega) only [lit, if_true, if_false, nI_leI, nI_ltI, nI_eq, nI_neg, nI_neg', nI_negE, ng_lt, ng_le, ng_nlt, ng_nle, ib_nI, nI_clamp, nI_add, nI_mul, nI_sub, nI_nn, if_pos, if_neg, decide_eq_true_eq, letw, leti, letl, Option.bind_some, nI_rem, p_X4_minutes, e8, p1, f_X4_letPass, p3]
        rw [wup_at]
        simp
      · rw [f_X10_pass, lit, lit, in_T h1 h2 (by omega)]
        simp (disch := omega) only [lit, if_true, if_false, nI_leI, nI_ltI, nI_eq, nI_neg, nI_neg', nI_negE, ng_lt, ng_le, ng_nlt, ng_nle, ib_nI, nI_clamp, nI_add, nI_mul, nI_sub, nI_nn, if_pos, if_neg, decide_eq_true_eq, letw, leti, letl, Option.bind_some, nI_rem, e41, k1, k3, eT]
        rw [wup_at]
        simp
      · have eN : ∀ c i, wup w2 8 1 4 (nI (T + k)) 0 c i = if c = 0 ∧ i = 8 then nI (T + k) else w 0 c i := by
          intro c i
          rw [wup_row, if_neg (by omega), k4 0 (by omega), wup_at, p3]
          simp
        have eV : wup w2 8 1 4 (nI (T + k)) 8 1 = upd (w 8 1) 4 (nI (T + k)) := by rw [wup_row, if_pos (by omega), k3]
        refine act_inv H p2 (fun g c hg => by rw [wup_row, if_neg (by omega)]) k2 (fun g c hg => by rw [wup_row, if_neg hg]) (Nat.le_refl t) H.1 ⟨S, R, P, ?_, ?_⟩
        · rw [eV]
          obtain ⟨⟨a1, a2, a3, a4, a5, a6⟩, b1, b2, b3, b4, b5, b6, b7, b8⟩ := hV
          refine ⟨⟨a1, a2, a3, a4, a5, a6⟩, b1, ⟨T + k, hk, upd_eq⟩, ?_, ?_, ?_, rtA a2 (Nat.le_refl _) (Nat.le_refl _) (fun j h1 h2 => upd_ne (by omega)) b6, ptA a3 (Nat.le_refl _) (fun j h1 h2 => upd_ne (by omega)) b7, clA (Nat.le_refl _) (fun j h1 h2 => upd_ne (by omega)) b8⟩
          · rw [cntA (fun j h1 h2 => upd_ne (by omega)) 10 (by omega)]; exact b3
          · intro s hs; rw [upd_ne (by omega)]; exact b4 s hs
          · intro s hs; rw [upd_ne (by omega)]; exact b5 s hs
        · rw [eV]
          obtain ⟨⟨a1, a2, a3, a4, a5, a6⟩, l, b1, b2, b3, b4, b5⟩ := hC
          refine ⟨⟨?_, ?_, ?_, ?_, ?_, ?_⟩, cLA ?_ (fun s hs => upd_ne (by omega)) l, ?_, ?_, cRA hV.1.2.1 (fun c i h1 h2 => ?_) (fun j h1 h2 => upd_ne (by omega)) b3, cPA hV.1.2.2.1 (fun c i h1 h2 => ?_) (fun j h1 h2 => upd_ne (by omega)) b4, cCA (fun c i h1 h2 => ?_) (fun j h1 h2 => upd_ne (by omega)) b5⟩
          · rw [eN, if_neg (by omega)]; exact a1
          · rw [eN, if_neg (by omega)]; exact a2
          · rw [eN, if_neg (by omega)]; exact a3
          · rw [eN, if_neg (by omega)]; exact a4
          · rw [eN, if_pos (by omega), upd_eq]
          · rw [eN, if_neg (by omega)]; exact a6
          · rw [eN, if_neg (by omega)]
          · intro s hs; rw [eN, if_neg (by omega), upd_ne (by have := hV.1.1; omega)]; exact b1 s hs
          · intro s hs; rw [eN, if_neg (by omega), upd_ne (by omega)]; exact b2 s hs
          · rw [eN, if_neg (by omega)]
          · rw [eN, if_neg (by omega)]
          · rw [eN, if_neg (by omega)]
    · refine ⟨-2, w, w, ?_, ?_, H⟩
      · rw [f_X9_pass, in_same, lit, lit, in_T h1 h2 (by omega)]
        simp (disch := omega) only [lit, if_true, if_false, nI_leI, nI_ltI, nI_eq, nI_neg, nI_neg', nI_negE, ng_lt, ng_le, ng_nlt, ng_nle, ib_nI, nI_clamp, nI_add, nI_mul, nI_sub, nI_nn, if_pos, if_neg, decide_eq_true_eq, letw, leti, letl, Option.bind_some, nI_rem, p_X4_minutes, e8]
      · rw [f_X10_pass, lit, lit, in_T h1 h2 (by omega)]
        simp (disch := omega) only [lit, if_true, if_false, nI_leI, nI_ltI, nI_eq, nI_neg, nI_neg', nI_negE, ng_lt, ng_le, ng_nlt, ng_nle, ib_nI, nI_clamp, nI_add, nI_mul, nI_sub, nI_nn, if_pos, if_neg, decide_eq_true_eq, letw, leti, letl, Option.bind_some, nI_rem, eT]
  · refine ⟨-1, w, w, ?_, ?_, H⟩
    · rw [f_X9_pass, in_same, lit, lit, in_F (by omega) h (by omega)]
      simp (disch := omega) only [lit, if_true, if_false, nI_leI, nI_ltI, nI_eq, nI_neg, nI_neg', nI_negE, ng_lt, ng_le, ng_nlt, ng_nle, ib_nI, nI_clamp, nI_add, nI_mul, nI_sub, nI_nn, if_pos, if_neg, decide_eq_true_eq, letw, leti, letl, Option.bind_some, nI_rem]
    · rw [f_X10_pass, lit, lit, in_F (by omega) h (by omega)]
      simp (disch := omega) only [lit, if_true, if_false, nI_leI, nI_ltI, nI_eq, nI_neg, nI_neg', nI_negE, ng_lt, ng_le, ng_nlt, ng_nle, ib_nI, nI_clamp, nI_add, nI_mul, nI_sub, nI_nn, if_pos, if_neg, decide_eq_true_eq, letw, leti, letl, Option.bind_some, nI_rem]
theorem even_nI : ∀ k, k < 63 → ((nI k &&& nI 1 = nI 0) ↔ k % 2 = 0) := by decide +kernel
theorem op_setCodes {t : Nat} {w : Wd} (H : Inv t w) (x1 x2 : Int32) : ∃ r w1 w2, f_X9_setCodes w x1 x2 = some (r, w1) ∧ f_X10_setCodes w1 x1 x2 = some (r, w2) ∧ Inv t w2 := by
  obtain ⟨S, R, P, hV, hC⟩ := H.now
  have hS := hV.1.1
  have eS : w 0 0 5 = nI S := hC.1.1.trans hV.1.2.2.2.1
  rcases rl x1 S with ⟨s, hs, rfl⟩ | h
  · rcases rg x2 0 62 with ⟨k, h1, h2, rfl⟩ | h
    · have he := even_nI k (by omega)
      have hI : ∀ w, p_X10_in w (nI k) (nI 0) (nI 62) = nI 1 := fun w => in_T h1 h2 (by omega)
      by_cases hk : k % 2 = 0
      · obtain ⟨w1, p1, p2, p3, p4⟩ := act_push H
        have e18 : w 0 1 s = w 8 1 (18 + s) := hC.2.2.1 s hs
        obtain ⟨w2, k1, k2, k3, k4⟩ := act_keep (wc := wup w1 0 1 s (nI k)) H (by funext c; rw [wup_row, if_neg (by omega), p4])
        have e1 : w1 0 0 5 = nI S := by rw [p3]; exact eS
        refine ⟨w 8 1 (18 + s), wup w1 0 1 s (nI k), wup w2 8 1 (18 + s) (nI k), ?_, ?_, ?_⟩
        · rw [f_X9_setCodes]
          simp (disch := omega) only [lit, if_true, if_false, nI_leI, nI_ltI, nI_eq, nI_neg, nI_neg', nI_negE, ng_lt, ng_le, ng_nlt, ng_nle, ib_nI, nI_clamp, nI_add, nI_mul, nI_sub, nI_nn, if_pos, if_neg, decide_eq_true_eq, letw, leti, letl, Option.bind_some, nI_rem, hasSw_T hS eS hs, in_same, hI, he.mpr hk, p1, f_X4_changeCodes, hasSw_T hS e1 hs, p3, e18]
        · have e2 := isSw_T (w := wup w1 0 1 s (nI k)) hS (by rw [wup_row, if_neg (by omega), p4]; exact hV.1.2.2.2.1) hs
          rw [f_X10_setCodes]
          simp (disch := omega) only [lit, if_true, if_false, nI_leI, nI_ltI, nI_eq, nI_neg, nI_neg', nI_negE, ng_lt, ng_le, ng_nlt, ng_nle, ib_nI, nI_clamp, nI_add, nI_mul, nI_sub, nI_nn, if_pos, if_neg, decide_eq_true_eq, letw, leti, letl, Option.bind_some, nI_rem, e2, hI, hk, f_X10_sets, k1, k3]
        · have eN : ∀ c i, wup w2 8 1 (18 + s) (nI k) 0 c i = if c = 1 ∧ i = s then nI k else w 0 c i := by
            intro c i
            rw [wup_row, if_neg (by omega), k4 0 (by omega), wup_at, p3]
            simp
          have eV : wup w2 8 1 (18 + s) (nI k) 8 1 = upd (w 8 1) (18 + s) (nI k) := by rw [wup_row, if_pos (by omega), k3]
          refine act_inv H p2 (fun g c hg => by rw [wup_row, if_neg (by omega)]) k2 (fun g c hg => by rw [wup_row, if_neg hg]) (Nat.le_refl t) H.1 ⟨S, R, P, ?_, ?_⟩
          · rw [eV]
            obtain ⟨⟨a1, a2, a3, a4, a5, a6⟩, b1, b2, b3, b4, b5, b6, b7, b8⟩ := hV
            refine ⟨⟨a1, a2, a3, by rw [upd_ne (by omega)]; exact a4, by rw [upd_ne (by omega)]; exact a5, by rw [upd_ne (by omega)]; exact a6⟩, by rw [upd_ne (by omega)]; exact b1, by rw [upd_ne (by omega)]; exact b2, ?_, ?_, ?_, rtA a2 (Nat.le_refl _) (Nat.le_refl _) (fun j h1 h2 => upd_ne (by omega)) b6, ptA a3 (Nat.le_refl _) (fun j h1 h2 => upd_ne (by omega)) b7, clA (Nat.le_refl _) (fun j h1 h2 => upd_ne (by omega)) b8⟩
            · rw [upd_ne (by omega), cntA (fun j h1 h2 => upd_ne (by omega)) 10 (by omega)]; exact b3
            · intro s hs; rw [upd_ne (by omega)]; exact b4 s hs
            · intro s' hs'
              by_cases hx : s' = s
              · subst hx
                exact ⟨k, h2, hk, upd_eq⟩
              · rw [upd_ne (by omega)]; exact b5 s' hs'
          · rw [eV]
            obtain ⟨⟨a1, a2, a3, a4, a5, a6⟩, l, b1, b2, b3, b4, b5⟩ := hC
            refine ⟨⟨?_, ?_, ?_, ?_, ?_, ?_⟩, cLA ?_ (fun s hs => upd_ne (by omega)) l, ?_, ?_, cRA hV.1.2.1 (fun c i h1 h2 => ?_) (fun j h1 h2 => upd_ne (by omega)) b3, cPA hV.1.2.2.1 (fun c i h1 h2 => ?_) (fun j h1 h2 => upd_ne (by omega)) b4, cCA (fun c i h1 h2 => ?_) (fun j h1 h2 => upd_ne (by omega)) b5⟩
            · rw [eN, if_neg (by omega), upd_ne (by omega)]; exact a1
            · rw [eN, if_neg (by omega), upd_ne (by omega)]; exact a2
            · rw [eN, if_neg (by omega), upd_ne (by omega)]; exact a3
            · rw [eN, if_neg (by omega), upd_ne (by omega)]; exact a4
            · rw [eN, if_neg (by omega), upd_ne (by omega)]; exact a5
            · rw [eN, if_neg (by omega), upd_ne (by omega)]; exact a6
            · rw [eN, if_neg (by omega)]
            · intro s' hs'
              by_cases hx : s' = s
              · subst hx
                rw [eN, if_pos (by omega), upd_eq]
              · rw [eN, if_neg (by omega), upd_ne (by omega)]; exact b1 s' hs'
            · intro s hs; rw [eN, if_neg (by omega), upd_ne (by omega)]; exact b2 s hs
            · rw [eN, if_neg (by omega)]
            · rw [eN, if_neg (by omega)]
            · rw [eN, if_neg (by omega)]
      · refine ⟨-1, w, w, ?_, ?_, H⟩
        · have h3 : ¬ (nI k &&& nI 1 = nI 0) := fun q => hk (he.mp q)
          rw [f_X9_setCodes]
          simp (disch := omega) only [lit, if_true, if_false, nI_leI, nI_ltI, nI_eq, nI_neg, nI_neg', nI_negE, ng_lt, ng_le, ng_nlt, ng_nle, ib_nI, nI_clamp, nI_add, nI_mul, nI_sub, nI_nn, if_pos, if_neg, decide_eq_true_eq, letw, leti, letl, Option.bind_some, nI_rem, hasSw_T hS eS hs, in_same, hI, h3]
        · rw [f_X10_setCodes]
          simp (disch := omega) only [lit, if_true, if_false, nI_leI, nI_ltI, nI_eq, nI_neg, nI_neg', nI_negE, ng_lt, ng_le, ng_nlt, ng_nle, ib_nI, nI_clamp, nI_add, nI_mul, nI_sub, nI_nn, if_pos, if_neg, decide_eq_true_eq, letw, leti, letl, Option.bind_some, nI_rem, isSw_T hS hV.1.2.2.2.1 hs, hI]
    · refine ⟨-1, w, w, ?_, ?_, H⟩
      · have hI : ∀ w, p_X10_in w x2 (nI 0) (nI 62) = nI 0 := fun w => in_F (by omega) h (by omega)
        rw [f_X9_setCodes]
        simp (disch := omega) only [lit, if_true, if_false, nI_leI, nI_ltI, nI_eq, nI_neg, nI_neg', nI_negE, ng_lt, ng_le, ng_nlt, ng_nle, ib_nI, nI_clamp, nI_add, nI_mul, nI_sub, nI_nn, if_pos, if_neg, decide_eq_true_eq, letw, leti, letl, Option.bind_some, nI_rem, hasSw_T hS eS hs, in_same, hI]
      · have hI : ∀ w, p_X10_in w x2 (nI 0) (nI 62) = nI 0 := fun w => in_F (by omega) h (by omega)
        rw [f_X10_setCodes]
        simp (disch := omega) only [lit, if_true, if_false, nI_leI, nI_ltI, nI_eq, nI_neg, nI_neg', nI_negE, ng_lt, ng_le, ng_nlt, ng_nle, ib_nI, nI_clamp, nI_add, nI_mul, nI_sub, nI_nn, if_pos, if_neg, decide_eq_true_eq, letw, leti, letl, Option.bind_some, nI_rem, isSw_T hS hV.1.2.2.2.1 hs, hI]
  · refine ⟨-1, w, w, ?_, ?_, H⟩
    · rw [f_X9_setCodes, hasSw_F hS eS h]
      simp (disch := omega) only [lit, if_true, if_false, nI_leI, nI_ltI, nI_eq, nI_neg, nI_neg', nI_negE, ng_lt, ng_le, ng_nlt, ng_nle, ib_nI, nI_clamp, nI_add, nI_mul, nI_sub, nI_nn, if_pos, if_neg, decide_eq_true_eq, letw, leti, letl, Option.bind_some, nI_rem]
    · rw [f_X10_setCodes, isSw_F hS hV.1.2.2.2.1 h]
      simp (disch := omega) only [lit, if_true, if_false, nI_leI, nI_ltI, nI_eq, nI_neg, nI_neg', nI_negE, ng_lt, ng_le, ng_nlt, ng_nle, ib_nI, nI_clamp, nI_add, nI_mul, nI_sub, nI_nn, if_pos, if_neg, decide_eq_true_eq, letw, leti, letl, Option.bind_some, nI_rem]
