theorem costOf_spec {n r b : Nat} {w : Wd} (hr : r < 40) (hb : b < 3) : f_X6_costOf n w (nI r) (nI b) = some (w n 7 (3 * r + b), w) := by
  rw [f_X6_costOf, lit, nI_mul, nI_add]
  simp (disch := omega) only [lit, if_true, if_false, nI_leI, nI_ltI, nI_eq, nI_neg, nI_neg', nI_negE, ng_lt, ng_le, ng_nlt, ng_nle, ib_nI, nI_clamp, nI_add, nI_mul, nI_sub, nI_nn, if_pos, if_neg, decide_eq_true_eq, letw, leti, letl, Option.bind_some, nI_rem]
  rw [show r * 3 + b = 3 * r + b from by omega]
theorem op_setCost {t : Nat} {w : Wd} (H : Inv t w) (x1 x2 x3 : Int32) : ∃ r w1 w2, f_X9_setCost w x1 x2 x3 = some (r, w1) ∧ f_X10_setCost w1 x1 x2 x3 = some (r, w2) ∧ Inv t w2 := by
  obtain ⟨S, R, P, hV, hC⟩ := H.now
  have hR := hV.1.2.1
  have eR8 : w 8 1 1 = nI R := hV.1.2.2.2.2.1
  have eR : w 0 3 6 = nI R := hC.1.2.1.trans eR8
  have hin : ∀ (w' : Wd) (x : Int32), (∀ k, k < R → x ≠ nI k) → p_X10_in w' x (nI 0) (nI R - nI 1) = nI 0 := by
    intro w' x h
    by_cases h0 : x < 0
    · unfold p_X10_in
      rw [if_pos (show x < nI 0 from h0)]; rfl
    · obtain ⟨k, hk, rfl⟩ := nI_of h0
      have hkS : ¬ k < R := fun q => h k q rfl
      by_cases hz : R = 0
      · subst hz
        unfold p_X10_in
        rw [if_neg (show ¬ nI k < nI 0 from h0), if_pos]
        · rfl
        · rw [Int32.lt_iff_toInt_lt, nI_toInt hk]
          have : (nI 0 - nI 1 : Int32).toInt = -1 := by decide
          rw [this]
          omega
      · rw [nI_sub (by omega)]
        exact in_F (by omega) (fun j h1 h2 e => by
          have := (nI_eq hk (by omega)).mp e
          omega) (by omega)
  have hinT : ∀ (w' : Wd) (k : Nat), k < R → p_X10_in w' (nI k) (nI 0) (nI (R - 1)) = nI 1 := fun w' k hk => in_T (by omega) (by omega) (by omega)
  rcases rl x1 R with ⟨r, hr, rfl⟩ | h
  · have h1R : 1 ≤ R := by omega
    rcases rg x2 0 2 with ⟨b, h1, h2, rfl⟩ | h
    · have hI : ∀ w, p_X10_in w (nI b) (nI 0) (nI 2) = nI 1 := fun w => in_T h1 h2 (by omega)
      rcases rg x3 0 1000 with ⟨k, h3, h4, rfl⟩ | h
      · have hI2 : ∀ w, p_X10_in w (nI k) (nI 0) (nI 1000) = nI 1 := fun w => in_T h3 h4 (by omega)
        obtain ⟨w1, p1, p2, p3, p4⟩ := act_push H
        have e7 : w 0 7 (3 * r + b) = w 8 1 (30 + 8 * r + (3 + b)) := (hC.2.2.2.2.1 r hr).2.2.2.1 b (by omega)
        obtain ⟨w2, k1, k2, k3, k4⟩ := act_keep (wc := wup w1 0 7 (3 * r + b) (nI k)) H (by funext c; rw [wup_row, if_neg (by omega), p4])
        have e1 : w1 0 3 6 = nI R := by rw [p3]; exact eR
        have e81 : wup w1 0 7 (3 * r + b) (nI k) 8 1 1 = nI R := by rw [wup_row, if_neg (by omega), p4]; exact eR8
        refine ⟨w 8 1 (30 + 8 * r + (3 + b)), wup w1 0 7 (3 * r + b) (nI k), wup w2 8 1 (30 + 8 * r + (3 + b)) (nI k), ?_, ?_, ?_⟩
        · rw [f_X9_setCost]
          simp (disch := omega) only [lit, if_true, if_false, nI_leI, nI_ltI, nI_eq, nI_neg, nI_neg', nI_negE, ng_lt, ng_le, ng_nlt, ng_nle, ib_nI, nI_clamp, nI_add, nI_mul, nI_sub, nI_nn, if_pos, if_neg, decide_eq_true_eq, letw, leti, letl, Option.bind_some, nI_rem, hasRt_T hR eR hr, in_same, hI, hI2, p1, f_X6_changeCost, hasRt_T hR e1 hr, p3]
          rw [show r * 3 + b = 3 * r + b from by omega, e7]
        · rw [f_X10_setCost]
          simp (disch := omega) only [lit, if_true, if_false, nI_leI, nI_ltI, nI_eq, nI_neg, nI_neg', nI_negE, ng_lt, ng_le, ng_nlt, ng_nle, ib_nI, nI_clamp, nI_add, nI_mul, nI_sub, nI_nn, if_pos, if_neg, decide_eq_true_eq, letw, leti, letl, Option.bind_some, nI_rem, e81, hinT, hI, hI2, f_X10_sets, k1, k3]
          rw [show 30 + 8 * r + 3 + b = 30 + 8 * r + (3 + b) from by omega]
        · have eN : ∀ c i, wup w2 8 1 (30 + 8 * r + (3 + b)) (nI k) 0 c i = if c = 7 ∧ i = 3 * r + b then nI k else w 0 c i := by
            intro c i
            rw [wup_row, if_neg (by omega), k4 0 (by omega), wup_at, p3]
            simp
          have eV : wup w2 8 1 (30 + 8 * r + (3 + b)) (nI k) 8 1 = upd (w 8 1) (30 + 8 * r + (3 + b)) (nI k) := by rw [wup_row, if_pos (by omega), k3]
          refine act_inv H p2 (fun g c hg => by rw [wup_row, if_neg (by omega)]) k2 (fun g c hg => by rw [wup_row, if_neg hg]) (Nat.le_refl t) H.1 ⟨S, R, P, ?_, ?_⟩
          · rw [eV]
            obtain ⟨⟨a1, a2, a3, a4, a5, a6⟩, b1, b2, b3, b4, b5, b6, b7, b8⟩ := hV
            refine ⟨⟨a1, a2, a3, by rw [upd_ne (by omega)]; exact a4, by rw [upd_ne (by omega)]; exact a5, by rw [upd_ne (by omega)]; exact a6⟩, by rw [upd_ne (by omega)]; exact b1, by rw [upd_ne (by omega)]; exact b2, ?_, ?_, ?_, ?_, ptA a3 (Nat.le_refl _) (fun j h1 h2 => upd_ne (by omega)) b7, clA (Nat.le_refl _) (fun j h1 h2 => upd_ne (by omega)) b8⟩
            · rw [upd_ne (by omega), cntA (fun j h1 h2 => upd_ne (by omega)) 10 (by omega)]; exact b3
            · intro s hs; rw [upd_ne (by omega)]; exact b4 s hs
            · intro s hs; rw [upd_ne (by omega)]; exact b5 s hs
            · intro r' hr'
              obtain ⟨o, p, x, l, kk, c, q1, q2, q3, q4, q5, q6, q7, q8, q9, q10, q11, q12, q13⟩ := b6 r' hr'
              by_cases hx : r' = r
              · subst hx
                refine ⟨o, p, x, l, kk, fun j => if j = b then k else c j, q1, q2, q3, q4, q5, q6, ?_, ?_, ?_, ?_, ?_, ?_, ?_⟩
                · intro j hj
                  by_cases hjb : j = b
                  · simp [hjb]; omega
                  · simp [hjb]; exact q7 j hj
                · dsimp only; rw [upd_ne (by omega)]; exact q8
                · dsimp only; rw [upd_ne (by omega)]; exact q9
                · dsimp only; rw [upd_ne (by omega)]; exact q10
                · intro j hj
                  by_cases hjb : j = b
                  · subst hjb; simp [upd_eq]
                  · dsimp only; rw [upd_ne (by omega), if_neg hjb]; exact q11 j hj
                · dsimp only; rw [upd_ne (by omega)]; exact q12
                · dsimp only; rw [upd_ne (by omega)]; exact q13
              · refine ⟨o, p, x, l, kk, c, q1, q2, q3, q4, q5, q6, q7, ?_, ?_, ?_, ?_, ?_, ?_⟩
                · dsimp only; rw [upd_ne (by omega)]; exact q8
                · dsimp only; rw [upd_ne (by omega)]; exact q9
                · dsimp only; rw [upd_ne (by omega)]; exact q10
                · intro j hj
                  dsimp only; rw [upd_ne (by omega)]; exact q11 j hj
                · dsimp only; rw [upd_ne (by omega)]; exact q12
                · dsimp only; rw [upd_ne (by omega)]; exact q13
          · rw [eV]
            obtain ⟨⟨a1, a2, a3, a4, a5, a6⟩, l, b1, b2, b3, b4, b5⟩ := hC
            refine ⟨⟨?_, ?_, ?_, ?_, ?_, ?_⟩, cLA ?_ (fun s hs => upd_ne (by omega)) l, ?_, ?_, ?_, cPA hV.1.2.2.1 (fun c i h1 h2 => ?_) (fun j h1 h2 => upd_ne (by omega)) b4, cCA (fun c i h1 h2 => ?_) (fun j h1 h2 => upd_ne (by omega)) b5⟩
            · rw [eN, if_neg (by omega), upd_ne (by omega)]; exact a1
            · rw [eN, if_neg (by omega), upd_ne (by omega)]; exact a2
            · rw [eN, if_neg (by omega), upd_ne (by omega)]; exact a3
            · rw [eN, if_neg (by omega), upd_ne (by omega)]; exact a4
            · rw [eN, if_neg (by omega), upd_ne (by omega)]; exact a5
            · rw [eN, if_neg (by omega), upd_ne (by omega)]; exact a6
            · rw [eN, if_neg (by omega)]
            · intro s hs; rw [eN, if_neg (by omega), upd_ne (by have := hV.1.1; omega)]; exact b1 s hs
            · intro s hs; rw [eN, if_neg (by omega), upd_ne (by omega)]; exact b2 s hs
            · intro r' hr'
              obtain ⟨q1, q2, q3, q4, q5, q6⟩ := b3 r' hr'
              refine ⟨?_, ?_, ?_, fun j hj => ?_, ?_, ?_⟩
              · rw [eN, if_neg (by omega), upd_ne (by omega)]; exact q1
              · rw [eN, if_neg (by omega), upd_ne (by omega)]; exact q2
              · rw [eN, if_neg (by omega), upd_ne (by omega)]; exact q3
              · by_cases hx : r' = r ∧ j = b
                · obtain ⟨rfl, rfl⟩ := hx
                  rw [eN, if_pos (by omega), upd_eq]
                · rw [eN, if_neg (by omega), upd_ne (by omega)]; exact q4 j hj
              · rw [eN, if_neg (by omega), upd_ne (by omega)]; exact q5
              · rw [eN, if_neg (by omega), upd_ne (by omega)]; exact q6
            · rw [eN, if_neg (by omega)]
            · rw [eN, if_neg (by omega)]
      · have hI2 : ∀ w, p_X10_in w x3 (nI 0) (nI 1000) = nI 0 := fun w => in_F (by omega) h (by omega)
        refine ⟨-1, w, w, ?_, ?_, H⟩
        · rw [f_X9_setCost]
          simp (disch := omega) only [lit, if_true, if_false, nI_leI, nI_ltI, nI_eq, nI_neg, nI_neg', nI_negE, ng_lt, ng_le, ng_nlt, ng_nle, ib_nI, nI_clamp, nI_add, nI_mul, nI_sub, nI_nn, if_pos, if_neg, decide_eq_true_eq, letw, leti, letl, Option.bind_some, nI_rem, hasRt_T hR eR hr, in_same, hI, hI2]
        · rw [f_X10_setCost]
          simp (disch := omega) only [lit, if_true, if_false, nI_leI, nI_ltI, nI_eq, nI_neg, nI_neg', nI_negE, ng_lt, ng_le, ng_nlt, ng_nle, ib_nI, nI_clamp, nI_add, nI_mul, nI_sub, nI_nn, if_pos, if_neg, decide_eq_true_eq, letw, leti, letl, Option.bind_some, nI_rem, eR8, hinT, hI, hI2]
    · have hI : ∀ w, p_X10_in w x2 (nI 0) (nI 2) = nI 0 := fun w => in_F (by omega) h (by omega)
      refine ⟨-1, w, w, ?_, ?_, H⟩
      · rw [f_X9_setCost]
        simp (disch := omega) only [lit, if_true, if_false, nI_leI, nI_ltI, nI_eq, nI_neg, nI_neg', nI_negE, ng_lt, ng_le, ng_nlt, ng_nle, ib_nI, nI_clamp, nI_add, nI_mul, nI_sub, nI_nn, if_pos, if_neg, decide_eq_true_eq, letw, leti, letl, Option.bind_some, nI_rem, hasRt_T hR eR hr, in_same, hI]
      · rw [f_X10_setCost]
        simp (disch := omega) only [lit, if_true, if_false, nI_leI, nI_ltI, nI_eq, nI_neg, nI_neg', nI_negE, ng_lt, ng_le, ng_nlt, ng_nle, ib_nI, nI_clamp, nI_add, nI_mul, nI_sub, nI_nn, if_pos, if_neg, decide_eq_true_eq, letw, leti, letl, Option.bind_some, nI_rem, eR8, hinT, hI]
  · refine ⟨-1, w, w, ?_, ?_, H⟩
    · rw [f_X9_setCost]
      simp (disch := omega) only [lit, if_true, if_false, nI_leI, nI_ltI, nI_eq, nI_neg, nI_neg', nI_negE, ng_lt, ng_le, ng_nlt, ng_nle, ib_nI, nI_clamp, nI_add, nI_mul, nI_sub, nI_nn, if_pos, if_neg, decide_eq_true_eq, letw, leti, letl, Option.bind_some, nI_rem, hasRt_F hR eR h]
    · rw [f_X10_setCost, if_pos (show ib 1 640 = true from rfl), show Int32.toNatClampNeg 1 = 1 from rfl, eR8, lit, lit, hin w x1 h, if_pos rfl]
/-! the ported numbers: the place of a number -/
theorem idx_T {n P k : Nat} {x : Int32} {w : Wd} (hP : P ≤ 30) (hw : w n 10 2 = nI P) (hk : k < P) (he : w n 11 k = x) (hj : ∀ j, j < k → w n 11 j ≠ x) : f_X5_indexOf n w x = some (nI k, w) := by
  have key : ∀ (d j fu : Nat), k - j = d → j ≤ k → d < fu → h_X5_indexOf_2 n fu w x (nI j) = some (nI k, w) := by
    intro d
    induction d with
    | zero =>
      intro j fu h1 h2 h3
      obtain ⟨fu, rfl⟩ : ∃ z, fu = z + 1 := ⟨fu - 1, by omega⟩
      have : j = k := by omega
      subst this
      rw [h_X5_indexOf_2, b_X5_indexOf_2, hw]
      simp (disch := omega) only [lit, if_true, if_false, nI_leI, nI_ltI, nI_eq, nI_neg, nI_neg', nI_negE, ng_lt, ng_le, ng_nlt, ng_nle, ib_nI, nI_clamp, nI_add, nI_mul, nI_sub, nI_nn, if_pos, if_neg, decide_eq_true_eq, letw, leti, letl, Option.bind_some, nI_rem, he]
    | succ d ih =>
      intro j fu h1 h2 h3
      obtain ⟨fu, rfl⟩ : ∃ z, fu = z + 1 := ⟨fu - 1, by omega⟩
      rw [h_X5_indexOf_2, b_X5_indexOf_2, hw]
      simp (disch := omega) only [lit, if_true, if_false, nI_leI, nI_ltI, nI_eq, nI_neg, nI_neg', nI_negE, ng_lt, ng_le, ng_nlt, ng_nle, ib_nI, nI_clamp, nI_add, nI_mul, nI_sub, nI_nn, if_pos, if_neg, decide_eq_true_eq, letw, leti, letl, Option.bind_some, nI_rem, hj j (by omega)]
      exact ih (j + 1) fu (by omega) (by omega) (by omega)
  rw [f_X5_indexOf, lit]
  exact key k 0 FU (by omega) (by omega) (by rw [FU_eq]; omega)
theorem idx_F {n P : Nat} {x : Int32} {w : Wd} (hP : P ≤ 30) (hw : w n 10 2 = nI P) (hj : ∀ j, j < P → w n 11 j ≠ x) : f_X5_indexOf n w x = some (-9, w) := by
  have key : ∀ (d j fu : Nat), P - j = d → j ≤ P → d < fu → h_X5_indexOf_2 n fu w x (nI j) = some (-9, w) := by
    intro d
    induction d with
    | zero =>
      intro j fu h1 h2 h3
      obtain ⟨fu, rfl⟩ : ∃ z, fu = z + 1 := ⟨fu - 1, by omega⟩
      rw [h_X5_indexOf_2, b_X5_indexOf_2, hw]
      simp (disch := omega) only [lit, if_true, if_false, nI_leI, nI_ltI, nI_eq, nI_neg, nI_neg', nI_negE, ng_lt, ng_le, ng_nlt, ng_nle, ib_nI, nI_clamp, nI_add, nI_mul, nI_sub, nI_nn, if_pos, if_neg, decide_eq_true_eq, letw, leti, letl, Option.bind_some, nI_rem]
    | succ d ih =>
      intro j fu h1 h2 h3
      obtain ⟨fu, rfl⟩ : ∃ z, fu = z + 1 := ⟨fu - 1, by omega⟩
      rw [h_X5_indexOf_2, b_X5_indexOf_2, hw]
      simp (disch := omega) only [lit, if_true, if_false, nI_leI, nI_ltI, nI_eq, nI_neg, nI_neg', nI_negE, ng_lt, ng_le, ng_nlt, ng_nle, ib_nI, nI_clamp, nI_add, nI_mul, nI_sub, nI_nn, if_pos, if_neg, decide_eq_true_eq, letw, leti, letl, Option.bind_some, nI_rem, hj j (by omega)]
      exact ih (j + 1) fu (by omega) (by omega) (by omega)
  rw [f_X5_indexOf, lit]
  exact key P 0 FU (by omega) (by omega) (by rw [FU_eq]; omega)
theorem por_T {P k : Nat} {x : Int32} {w : Wd} (hP : P ≤ 30) (hw : w 8 1 2 = nI P) (hk : k < P) (he : w 8 1 (350 + 2 * k) = x) (hj : ∀ j, j < k → w 8 1 (350 + 2 * j) ≠ x) : f_X10_portOf w x = some (nI k, w) := by
  have key : ∀ (d j fu : Nat), k - j = d → j ≤ k → d < fu → h_X10_portOf_2 fu w x (nI j) = some (nI k, w) := by
    intro d
    induction d with
    | zero =>
      intro j fu h1 h2 h3
      obtain ⟨fu, rfl⟩ : ∃ z, fu = z + 1 := ⟨fu - 1, by omega⟩
      have : j = k := by omega
      subst this
      rw [h_X10_portOf_2, b_X10_portOf_2]
      simp (disch := omega) only [lit, if_true, if_false, nI_leI, nI_ltI, nI_eq, nI_neg, nI_neg', nI_negE, ng_lt, ng_le, ng_nlt, ng_nle, ib_nI, nI_clamp, nI_add, nI_mul, nI_sub, nI_nn, if_pos, if_neg, decide_eq_true_eq, letw, leti, letl, Option.bind_some, nI_rem, hw, he]
    | succ d ih =>
      intro j fu h1 h2 h3
      obtain ⟨fu, rfl⟩ : ∃ z, fu = z + 1 := ⟨fu - 1, by omega⟩
      rw [h_X10_portOf_2, b_X10_portOf_2]
      simp (disch := omega) only [lit, if_true, if_false, nI_leI, nI_ltI, nI_eq, nI_neg, nI_neg', nI_negE, ng_lt, ng_le, ng_nlt, ng_nle, ib_nI, nI_clamp, nI_add, nI_mul, nI_sub, nI_nn, if_pos, if_neg, decide_eq_true_eq, letw, leti, letl, Option.bind_some, nI_rem, hw, hj j (by omega)]
      exact ih (j + 1) fu (by omega) (by omega) (by omega)
  rw [f_X10_portOf, lit]
  exact key k 0 FU (by omega) (by omega) (by rw [FU_eq]; omega)
theorem por_F {P : Nat} {x : Int32} {w : Wd} (hP : P ≤ 30) (hw : w 8 1 2 = nI P) (hj : ∀ j, j < P → w 8 1 (350 + 2 * j) ≠ x) : f_X10_portOf w x = some (-1, w) := by
  have key : ∀ (d j fu : Nat), P - j = d → j ≤ P → d < fu → h_X10_portOf_2 fu w x (nI j) = some (-1, w) := by
    intro d
    induction d with
    | zero =>
      intro j fu h1 h2 h3
      obtain ⟨fu, rfl⟩ : ∃ z, fu = z + 1 := ⟨fu - 1, by omega⟩
      rw [h_X10_portOf_2, b_X10_portOf_2]
      simp (disch := omega) only [lit, if_true, if_false, nI_leI, nI_ltI, nI_eq, nI_neg, nI_neg', nI_negE, ng_lt, ng_le, ng_nlt, ng_nle, ib_nI, nI_clamp, nI_add, nI_mul, nI_sub, nI_nn, if_pos, if_neg, decide_eq_true_eq, letw, leti, letl, Option.bind_some, nI_rem, hw]
    | succ d ih =>
      intro j fu h1 h2 h3
      obtain ⟨fu, rfl⟩ : ∃ z, fu = z + 1 := ⟨fu - 1, by omega⟩
      rw [h_X10_portOf_2, b_X10_portOf_2]
      simp (disch := omega) only [lit, if_true, if_false, nI_leI, nI_ltI, nI_eq, nI_neg, nI_neg', nI_negE, ng_lt, ng_le, ng_nlt, ng_nle, ib_nI, nI_clamp, nI_add, nI_mul, nI_sub, nI_nn, if_pos, if_neg, decide_eq_true_eq, letw, leti, letl, Option.bind_some, nI_rem, hw, hj j (by omega)]
      exact ih (j + 1) fu (by omega) (by omega) (by omega)
  rw [f_X10_portOf, lit]
  exact key P 0 FU (by omega) (by omega) (by rw [FU_eq]; omega)
/-- the first place with a property, or none -/
theorem first {p : Nat → Prop} (P : Nat) : (∃ k, k < P ∧ p k ∧ ∀ j, j < k → ¬ p j) ∨ ∀ j, j < P → ¬ p j := by
  induction P with
  | zero => exact Or.inr (fun j hj => by omega)
  | succ P ih =>
    rcases ih with ⟨k, h1, h2, h3⟩ | h
    · exact Or.inl ⟨k, by omega, h2, h3⟩
    · by_cases hp : p P
      · exact Or.inl ⟨P, by omega, hp, h⟩
      · refine Or.inr (fun j hj => ?_)
        by_cases hjP : j = P
        · subst hjP; exact hp
        · exact h j (by omega)
