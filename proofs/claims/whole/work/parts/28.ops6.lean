/-! a route is put: the router's rows, the model's row -/
def putN (N : Nat → Nat → Int32) (R : Nat) (x1 x2 x3 x4 x5 : Int32) : Nat → Nat → Int32 := fun c i =>
  if c = 4 ∧ i = R then x1 else if c = 5 ∧ i = R then x2 else if c = 6 ∧ i = R then x3 else if c = 7 ∧ (3 * R ≤ i ∧ i < 3 * R + 3) then x4 else if c = 8 ∧ i = R then x5 else if c = 9 ∧ i = R then nI 0 else if c = 3 ∧ i = 6 then nI (R + 1) else N c i
theorem put_spec {n R : Nat} {w : Wd} {x1 x2 x3 x4 x5 : Int32} (hR : R < 40) (hw : w n 3 6 = nI R) : ∃ w', f_X6_put n w x1 x2 x3 x4 x5 = some (nI R, w') ∧ (∀ g c, g ≠ n → w' g c = w g c) ∧ ∀ c i, w' n c i = putN (w n) R x1 x2 x3 x4 x5 c i := by
  obtain ⟨fu, hfu⟩ : ∃ fu, FU = fu + 4 := ⟨FU - 4, by rw [FU_eq]⟩
  rw [f_X6_put, hw, hfu]
  simp (disch := omega) only [lit, if_true, if_false, nI_leI, nI_ltI, nI_eq, nI_neg, nI_neg', nI_negE, ng_lt, ng_le, ng_nlt, ng_nle, ib_nI, nI_clamp, nI_add, nI_mul, nI_sub, nI_nn, if_pos, if_neg, decide_eq_true_eq, letw, leti, letl, Option.bind_some, nI_rem]
  rw [h_X6_put_43, b_X6_put_43]
  simp (disch := omega) only [lit, if_true, if_false, nI_leI, nI_ltI, nI_eq, nI_neg, nI_neg', nI_negE, ng_lt, ng_le, ng_nlt, ng_nle, ib_nI, nI_clamp, nI_add, nI_mul, nI_sub, nI_nn, if_pos, if_neg, decide_eq_true_eq, letw, leti, letl, Option.bind_some, nI_rem]
  rw [h_X6_put_43, b_X6_put_43]
  simp (disch := omega) only [lit, if_true, if_false, nI_leI, nI_ltI, nI_eq, nI_neg, nI_neg', nI_negE, ng_lt, ng_le, ng_nlt, ng_nle, ib_nI, nI_clamp, nI_add, nI_mul, nI_sub, nI_nn, if_pos, if_neg, decide_eq_true_eq, letw, leti, letl, Option.bind_some, nI_rem]
  rw [h_X6_put_43, b_X6_put_43]
  simp (disch := omega) only [lit, if_true, if_false, nI_leI, nI_ltI, nI_eq, nI_neg, nI_neg', nI_negE, ng_lt, ng_le, ng_nlt, ng_nle, ib_nI, nI_clamp, nI_add, nI_mul, nI_sub, nI_nn, if_pos, if_neg, decide_eq_true_eq, letw, leti, letl, Option.bind_some, nI_rem]
  rw [h_X6_put_43, b_X6_put_43]
  simp (disch := omega) only [lit, if_true, if_false, nI_leI, nI_ltI, nI_eq, nI_neg, nI_neg', nI_negE, ng_lt, ng_le, ng_nlt, ng_nle, ib_nI, nI_clamp, nI_add, nI_mul, nI_sub, nI_nn, if_pos, if_neg, decide_eq_true_eq, letw, leti, letl, Option.bind_some, nI_rem]
  refine ⟨_, rfl, ?_, ?_⟩
  · intro g c hg
    funext i
    simp only [wup_at, hg, false_and, if_false]
  · intro c i
    simp only [wup_at, putN, true_and]
    by_cases h3 : c = 3 ∧ i = 6
    · obtain ⟨rfl, rfl⟩ := h3
      simp
    · by_cases h4 : c = 4
      · subst h4; simp
      · by_cases h5 : c = 5
        · subst h5; simp
        · by_cases h6 : c = 6
          · subst h6; simp
          · by_cases h7 : c = 7
            · subst h7
              simp
              by_cases q : 3 * R ≤ i ∧ i < 3 * R + 3
              · rw [if_pos q]
                by_cases q2 : i = R * 3 + 2
                · rw [if_pos q2]
                · by_cases q1 : i = R * 3 + 1
                  · rw [if_neg q2, if_pos q1]
                  · rw [if_neg q2, if_neg q1, if_pos (by omega)]
              · rw [if_neg q, if_neg (by omega), if_neg (by omega), if_neg (by omega)]
            · by_cases h8 : c = 8
              · subst h8; simp
              · by_cases h9 : c = 9
                · subst h9; simp
                · simp [h3, h4, h5, h6, h7, h8, h9]
def putV (v : Nat → Int32) (R : Nat) (x1 x2 x3 x4 x5 : Int32) : Nat → Int32 := fun j =>
  if j = 1 then nI (R + 1) else if j = 30 + 8 * R then x1 else if j = 30 + 8 * R + 1 then x2 else if j = 30 + 8 * R + 2 then x3 else if 30 + 8 * R + 3 ≤ j ∧ j < 30 + 8 * R + 6 then x4 else if j = 30 + 8 * R + 6 then x5 else if j = 30 + 8 * R + 7 then nI 0 else v j
theorem routes_spec {R : Nat} {w : Wd} {x1 x2 x3 x4 x5 : Int32} (hR : R < 40) (hw : w 8 1 1 = nI R) : ∃ w', f_X10_routes w x1 x2 x3 x4 x5 = some ((), w') ∧ (∀ g c, ¬ (g = 8 ∧ c = 1) → w' g c = w g c) ∧ ∀ j, w' 8 1 j = putV (w 8 1) R x1 x2 x3 x4 x5 j := by
  rw [f_X10_routes]
  simp (disch := omega) only [lit, if_true, if_false, nI_leI, nI_ltI, nI_eq, nI_neg, nI_neg', nI_negE, ng_lt, ng_le, ng_nlt, ng_nle, ib_nI, nI_clamp, nI_add, nI_mul, nI_sub, nI_nn, if_pos, if_neg, decide_eq_true_eq, leti, letl, Option.bind_some, nI_rem, hw]
  simp only [letw]
  refine ⟨_, rfl, ?_, ?_⟩
  · intro g c hg
    simp only [wup_row, hg, if_false]
  · intro j
    simp only [wup_at, true_and, putV]
    by_cases h1 : j = 1
    · subst h1
      simp (disch := omega) only [lit, if_true, if_false, nI_leI, nI_ltI, nI_eq, nI_neg, nI_neg', nI_negE, ng_lt, ng_le, ng_nlt, ng_nle, ib_nI, nI_clamp, nI_add, nI_mul, nI_sub, nI_nn, if_pos, if_neg, decide_eq_true_eq, letw, leti, letl, Option.bind_some, nI_rem, hw, and_self]
    · simp only [h1, if_false]
      by_cases h7 : j = 30 + 8 * R + 7
      · subst h7
        simp (disch := omega) only [lit, if_true, if_false, nI_leI, nI_ltI, nI_eq, nI_neg, nI_neg', nI_negE, ng_lt, ng_le, ng_nlt, ng_nle, ib_nI, nI_clamp, nI_add, nI_mul, nI_sub, nI_nn, if_pos, if_neg, decide_eq_true_eq, letw, leti, letl, Option.bind_some, nI_rem]
      · simp only [h7, if_false]
        by_cases h6 : j = 30 + 8 * R + 6
        · subst h6
          simp (disch := omega) only [lit, if_true, if_false, nI_leI, nI_ltI, nI_eq, nI_neg, nI_neg', nI_negE, ng_lt, ng_le, ng_nlt, ng_nle, ib_nI, nI_clamp, nI_add, nI_mul, nI_sub, nI_nn, if_pos, if_neg, decide_eq_true_eq, letw, leti, letl, Option.bind_some, nI_rem]
        · simp only [h6, if_false]
          by_cases h5 : 30 + 8 * R + 3 ≤ j ∧ j < 30 + 8 * R + 6
          · simp (disch := omega) only [lit, if_true, if_false, nI_leI, nI_ltI, nI_eq, nI_neg, nI_neg', nI_negE, ng_lt, ng_le, ng_nlt, ng_nle, ib_nI, nI_clamp, nI_add, nI_mul, nI_sub, nI_nn, if_pos, if_neg, decide_eq_true_eq, letw, leti, letl, Option.bind_some, nI_rem]
            by_cases q5 : j = 30 + 8 * R + 5
            · rw [if_pos q5]
            · by_cases q4 : j = 30 + 8 * R + 4
              · rw [if_neg q5, if_pos q4]
              · rw [if_neg q5, if_neg q4]
          · simp (disch := omega) only [lit, if_true, if_false, nI_leI, nI_ltI, nI_eq, nI_neg, nI_neg', nI_negE, ng_lt, ng_le, ng_nlt, ng_nle, ib_nI, nI_clamp, nI_add, nI_mul, nI_sub, nI_nn, if_pos, if_neg, decide_eq_true_eq, letw, leti, letl, Option.bind_some, nI_rem]
            by_cases q2 : j = 30 + 8 * R + 2
            · subst q2; simp (disch := omega) only [lit, if_true, if_false, nI_leI, nI_ltI, nI_eq, nI_neg, nI_neg', nI_negE, ng_lt, ng_le, ng_nlt, ng_nle, ib_nI, nI_clamp, nI_add, nI_mul, nI_sub, nI_nn, if_pos, if_neg, decide_eq_true_eq, letw, leti, letl, Option.bind_some, nI_rem]
            · by_cases q1 : j = 30 + 8 * R + 1
              · subst q1; simp (disch := omega) only [lit, if_true, if_false, nI_leI, nI_ltI, nI_eq, nI_neg, nI_neg', nI_negE, ng_lt, ng_le, ng_nlt, ng_nle, ib_nI, nI_clamp, nI_add, nI_mul, nI_sub, nI_nn, if_pos, if_neg, decide_eq_true_eq, letw, leti, letl, Option.bind_some, nI_rem]
              · simp only [q2, q1, if_false]
theorem put_NR {t S R P : Nat} {N N' : Nat → Nat → Int32} {v v' : Nat → Int32} {s p x c l : Nat} (hV : Vd t v S R P) (hC : Cp N v S R P) (hR : R < 40) (hs : s < S) (hp : p ≤ 999999999) (hx : x < S) (hc : c ≤ 1000) (hl : 1 ≤ l ∧ l ≤ 20) (hN : ∀ c' i, N' c' i = putN N R (nI s) (nI p) (nI x) (nI c) (nI l) c' i) (hv : ∀ j, v' j = putV v R (nI s) (nI p) (nI x) (nI c) (nI l) j) : NR t N' v' := by
  have hN' : N' = putN N R (nI s) (nI p) (nI x) (nI c) (nI l) := funext fun c => funext fun i => hN c i
  have hv' : v' = putV v R (nI s) (nI p) (nI x) (nI c) (nI l) := funext hv
  subst hN'
  subst hv'
  have vne : ∀ j, j ≠ 1 → ¬ (30 + 8 * R ≤ j ∧ j < 38 + 8 * R) → putV v R (nI s) (nI p) (nI x) (nI c) (nI l) j = v j := by
    intro j h1 h2
    unfold putV
    simp (disch := omega) only [lit, if_true, if_false, nI_leI, nI_ltI, nI_eq, nI_neg, nI_neg', nI_negE, ng_lt, ng_le, ng_nlt, ng_nle, ib_nI, nI_clamp, nI_add, nI_mul, nI_sub, nI_nn, if_pos, if_neg, decide_eq_true_eq, letw, leti, letl, Option.bind_some, nI_rem]
  have Nne : ∀ c' i, ¬ (4 ≤ c' ∧ c' ≤ 9 ∧ c' ≠ 7 ∧ i = R) → ¬ (c' = 7 ∧ 3 * R ≤ i ∧ i < 3 * R + 3) → ¬ (c' = 3 ∧ i = 6) → putN N R (nI s) (nI p) (nI x) (nI c) (nI l) c' i = N c' i := by
    intro c' i h1 h2 h3
    unfold putN
    rw [if_neg (by omega), if_neg (by omega), if_neg (by omega), if_neg (by omega), if_neg (by omega), if_neg (by omega), if_neg h3]
  refine ⟨S, R + 1, P, ?_, ?_⟩
  · obtain ⟨⟨a1, a2, a3, a4, a5, a6⟩, b1, b2, b3, b4, b5, b6, b7, b8⟩ := hV
    refine ⟨⟨a1, by omega, a3, by rw [vne _ (by omega) (by omega)]; exact a4, rfl, by rw [vne _ (by omega) (by omega)]; exact a6⟩, by rw [vne _ (by omega) (by omega)]; exact b1, by rw [vne _ (by omega) (by omega)]; exact b2, ?_, ?_, ?_, ?_, ptA a3 (Nat.le_refl _) (fun j h1 h2 => vne _ (by omega) (by omega)) b7, clA (by omega) (fun j h1 h2 => vne _ (by omega) (by omega)) b8⟩
    · rw [vne _ (by omega) (by omega), cntA (fun j h1 h2 => vne _ (by omega) (by omega)) 10 (by omega)]; exact b3
    · intro s hs; rw [vne _ (by omega) (by omega)]; exact b4 s hs
    · intro s hs; rw [vne _ (by omega) (by omega)]; exact b5 s hs
    · intro r hr
      by_cases hrR : r = R
      · subst hrR
        refine ⟨s, p, x, l, 0, fun _ => c, hs, hp, hx, hl.2, by omega, by omega, fun _ _ => hc, ?_, ?_, ?_, fun b hb => ?_, ?_, ?_⟩
        · simp only [putV]; simp (disch := omega) only [lit, if_true, if_false, nI_leI, nI_ltI, nI_eq, nI_neg, nI_neg', nI_negE, ng_lt, ng_le, ng_nlt, ng_nle, ib_nI, nI_clamp, nI_add, nI_mul, nI_sub, nI_nn, if_pos, if_neg, decide_eq_true_eq, letw, leti, letl, Option.bind_some, nI_rem]
        · simp only [putV]; simp (disch := omega) only [lit, if_true, if_false, nI_leI, nI_ltI, nI_eq, nI_neg, nI_neg', nI_negE, ng_lt, ng_le, ng_nlt, ng_nle, ib_nI, nI_clamp, nI_add, nI_mul, nI_sub, nI_nn, if_pos, if_neg, decide_eq_true_eq, letw, leti, letl, Option.bind_some, nI_rem]
        · simp only [putV]; simp (disch := omega) only [lit, if_true, if_false, nI_leI, nI_ltI, nI_eq, nI_neg, nI_neg', nI_negE, ng_lt, ng_le, ng_nlt, ng_nle, ib_nI, nI_clamp, nI_add, nI_mul, nI_sub, nI_nn, if_pos, if_neg, decide_eq_true_eq, letw, leti, letl, Option.bind_some, nI_rem]
        · simp only [putV]; simp (disch := omega) only [lit, if_true, if_false, nI_leI, nI_ltI, nI_eq, nI_neg, nI_neg', nI_negE, ng_lt, ng_le, ng_nlt, ng_nle, ib_nI, nI_clamp, nI_add, nI_mul, nI_sub, nI_nn, if_pos, if_neg, decide_eq_true_eq, letw, leti, letl, Option.bind_some, nI_rem]
        · simp only [putV]; simp (disch := omega) only [lit, if_true, if_false, nI_leI, nI_ltI, nI_eq, nI_neg, nI_neg', nI_negE, ng_lt, ng_le, ng_nlt, ng_nle, ib_nI, nI_clamp, nI_add, nI_mul, nI_sub, nI_nn, if_pos, if_neg, decide_eq_true_eq, letw, leti, letl, Option.bind_some, nI_rem]
        · simp only [putV]; simp (disch := omega) only [lit, if_true, if_false, nI_leI, nI_ltI, nI_eq, nI_neg, nI_neg', nI_negE, ng_lt, ng_le, ng_nlt, ng_nle, ib_nI, nI_clamp, nI_add, nI_mul, nI_sub, nI_nn, if_pos, if_neg, decide_eq_true_eq, letw, leti, letl, Option.bind_some, nI_rem]; rfl
      · obtain ⟨o, p', x', l', kk, c', q1, q2, q3, q4, q5, q6, q7, q8, q9, q10, q11, q12, q13⟩ := b6 r (by omega)
        refine ⟨o, p', x', l', kk, c', q1, q2, q3, q4, q5, q6, q7, ?_, ?_, ?_, fun b hb => ?_, ?_, ?_⟩
        · dsimp only; rw [vne _ (by omega) (by omega)]; exact q8
        · dsimp only; rw [vne _ (by omega) (by omega)]; exact q9
        · dsimp only; rw [vne _ (by omega) (by omega)]; exact q10
        · dsimp only; rw [vne _ (by omega) (by omega)]; exact q11 b hb
        · dsimp only; rw [vne _ (by omega) (by omega)]; exact q12
        · dsimp only; rw [vne _ (by omega) (by omega)]; exact q13
  · obtain ⟨⟨a1, a2, a3, a4, a5, a6⟩, ll, b1, b2, b3, b4, b5⟩ := hC
    refine ⟨⟨?_, ?_, ?_, ?_, ?_, ?_⟩, cLA ?_ (fun s hs => vne _ (by omega) (by omega)) ll, ?_, ?_, ?_, cPA hV.1.2.2.1 (fun c i h1 h2 => ?_) (fun j h1 h2 => vne _ (by omega) (by omega)) b4, cCA (fun c i h1 h2 => ?_) (fun j h1 h2 => vne _ (by omega) (by omega)) b5⟩
    · rw [Nne _ _ (by omega) (by omega) (by omega), vne _ (by omega) (by omega)]; exact a1
    · rfl
    · rw [Nne _ _ (by omega) (by omega) (by omega), vne _ (by omega) (by omega)]; exact a3
    · rw [Nne _ _ (by omega) (by omega) (by omega), vne _ (by omega) (by omega)]; exact a4
    · rw [Nne _ _ (by omega) (by omega) (by omega), vne _ (by omega) (by omega)]; exact a5
    · rw [Nne _ _ (by omega) (by omega) (by omega), vne _ (by omega) (by omega)]; exact a6
    · rw [Nne _ _ (by omega) (by omega) (by omega)]
    · intro s hs; rw [Nne _ _ (by omega) (by omega) (by omega), vne _ (by omega) (by have := hV.1.1; omega)]; exact b1 s hs
    · intro s hs; rw [Nne _ _ (by omega) (by omega) (by omega), vne _ (by omega) (by omega)]; exact b2 s hs
    · intro r hr
      by_cases hrR : r = R
      · subst hrR
        refine ⟨?_, ?_, ?_, fun b hb => ?_, ?_, ?_⟩
        · simp only [putN, putV]; simp (disch := omega) only [lit, if_true, if_false, nI_leI, nI_ltI, nI_eq, nI_neg, nI_neg', nI_negE, ng_lt, ng_le, ng_nlt, ng_nle, ib_nI, nI_clamp, nI_add, nI_mul, nI_sub, nI_nn, if_pos, if_neg, decide_eq_true_eq, letw, leti, letl, Option.bind_some, nI_rem, and_self]
        · simp only [putN, putV]; simp (disch := omega) only [lit, if_true, if_false, nI_leI, nI_ltI, nI_eq, nI_neg, nI_neg', nI_negE, ng_lt, ng_le, ng_nlt, ng_nle, ib_nI, nI_clamp, nI_add, nI_mul, nI_sub, nI_nn, if_pos, if_neg, decide_eq_true_eq, letw, leti, letl, Option.bind_some, nI_rem, and_self]
        · simp only [putN, putV]; simp (disch := omega) only [lit, if_true, if_false, nI_leI, nI_ltI, nI_eq, nI_neg, nI_neg', nI_negE, ng_lt, ng_le, ng_nlt, ng_nle, ib_nI, nI_clamp, nI_add, nI_mul, nI_sub, nI_nn, if_pos, if_neg, decide_eq_true_eq, letw, leti, letl, Option.bind_some, nI_rem, and_self]
        · simp only [putN, putV]; simp (disch := omega) only [lit, if_true, if_false, nI_leI, nI_ltI, nI_eq, nI_neg, nI_neg', nI_negE, ng_lt, ng_le, ng_nlt, ng_nle, ib_nI, nI_clamp, nI_add, nI_mul, nI_sub, nI_nn, if_pos, if_neg, decide_eq_true_eq, letw, leti, letl, Option.bind_some, nI_rem, and_self]
          rw [if_pos ⟨trivial, by omega, by omega⟩]
        · simp only [putN, putV]; simp (disch := omega) only [lit, if_true, if_false, nI_leI, nI_ltI, nI_eq, nI_neg, nI_neg', nI_negE, ng_lt, ng_le, ng_nlt, ng_nle, ib_nI, nI_clamp, nI_add, nI_mul, nI_sub, nI_nn, if_pos, if_neg, decide_eq_true_eq, letw, leti, letl, Option.bind_some, nI_rem, and_self]
        · simp only [putN, putV]; simp (disch := omega) only [lit, if_true, if_false, nI_leI, nI_ltI, nI_eq, nI_neg, nI_neg', nI_negE, ng_lt, ng_le, ng_nlt, ng_nle, ib_nI, nI_clamp, nI_add, nI_mul, nI_sub, nI_nn, if_pos, if_neg, decide_eq_true_eq, letw, leti, letl, Option.bind_some, nI_rem, and_self]
      · obtain ⟨q1, q2, q3, q4, q5, q6⟩ := b3 r (by omega)
        refine ⟨?_, ?_, ?_, fun j hj => ?_, ?_, ?_⟩
        · rw [Nne _ _ (by omega) (by omega) (by omega), vne _ (by omega) (by omega)]; exact q1
        · rw [Nne _ _ (by omega) (by omega) (by omega), vne _ (by omega) (by omega)]; exact q2
        · rw [Nne _ _ (by omega) (by omega) (by omega), vne _ (by omega) (by omega)]; exact q3
        · rw [Nne _ _ (by omega) (by omega) (by omega), vne _ (by omega) (by omega)]; exact q4 j hj
        · rw [Nne _ _ (by omega) (by omega) (by omega), vne _ (by omega) (by omega)]; exact q5
        · rw [Nne _ _ (by omega) (by omega) (by omega), vne _ (by omega) (by omega)]; exact q6
    · rw [Nne _ _ (by omega) (by omega) (by omega)]
    · rw [Nne _ _ (by omega) (by omega) (by omega)]
/-- the checks of a route: both sides' verdicts -/
theorem rt_check {t S R P : Nat} {w wm : Wd} (hV : Vd t (w 8 1) S R P) (hC : Cp (w 0) (w 8 1) S R P) (hm : wm 8 1 = w 8 1) (x1 x2 x3 x4 x5 : Int32) :
    (∃ s p x c l : Nat, s < S ∧ p ≤ 999999999 ∧ x < S ∧ c ≤ 1000 ∧ (1 ≤ l ∧ l ≤ 20) ∧ x1 = nI s ∧ x2 = nI p ∧ x3 = nI x ∧ x4 = nI c ∧ x5 = nI l ∧ p_X4_routeRefusal 0 w x1 x2 x3 x4 x5 = (if R < 40 then nI 0 else -nI 3) ∧ f_X10_isRoute wm x1 x2 x3 x4 x5 = some (nI 1, wm)) ∨
    (p_X4_routeRefusal 0 w x1 x2 x3 x4 x5 = -nI 1 ∧ f_X10_isRoute wm x1 x2 x3 x4 x5 = some (nI 0, wm)) := by
  have hS := hV.1.1
  have eS8 : w 8 1 0 = nI S := hV.1.2.2.2.1
  have eS : w 0 0 5 = nI S := hC.1.1.trans eS8
  have eSm : wm 8 1 0 = nI S := by rw [hm]; exact eS8
  have hR := hV.1.2.1
  have eR : w 0 3 6 = nI R := hC.1.2.1.trans hV.1.2.2.2.2.1
  rcases rl x1 S with ⟨s, hs, rfl⟩ | h
  · rcases rl x3 S with ⟨x, hx, rfl⟩ | h
    · rcases rg x2 0 999999999 with ⟨p, h1, h2, rfl⟩ | h
      · have i2 : ∀ w, p_X10_in w (nI p) (nI 0) (nI 999999999) = nI 1 := fun w => in_T h1 h2 (by omega)
        rcases rg x4 0 1000 with ⟨c, h3, h4, rfl⟩ | h
        · have i4 : ∀ w, p_X10_in w (nI c) (nI 0) (nI 1000) = nI 1 := fun w => in_T h3 h4 (by omega)
          rcases rg x5 1 20 with ⟨l, h5, h6, rfl⟩ | h
          · have i5 : ∀ w, p_X10_in w (nI l) (nI 1) (nI 20) = nI 1 := fun w => in_T h5 h6 (by omega)
            refine Or.inl ⟨s, p, x, c, l, hs, h2, hx, h4, ⟨h5, h6⟩, rfl, rfl, rfl, rfl, rfl, ?_, ?_⟩
            · rw [p_X4_routeRefusal]
              simp (disch := omega) only [lit, if_true, if_false, nI_leI, nI_ltI, nI_eq, nI_neg, nI_neg', nI_negE, ng_lt, ng_le, ng_nlt, ng_nle, ib_nI, nI_clamp, nI_add, nI_mul, nI_sub, nI_nn, if_pos, if_neg, decide_eq_true_eq, letw, leti, letl, Option.bind_some, nI_rem, hasSw_T hS eS hs, hasSw_T hS eS hx, in_same, i2, i4, i5, p_X6_size, eR]
            · rw [f_X10_isRoute]
              simp (disch := omega) only [lit, if_true, if_false, nI_leI, nI_ltI, nI_eq, nI_neg, nI_neg', nI_negE, ng_lt, ng_le, ng_nlt, ng_nle, ib_nI, nI_clamp, nI_add, nI_mul, nI_sub, nI_nn, if_pos, if_neg, decide_eq_true_eq, letw, leti, letl, Option.bind_some, nI_rem, isSw_T hS eSm hs, isSw_T hS eSm hx, i2, i4, i5]
          · have i5 : ∀ w, p_X10_in w x5 (nI 1) (nI 20) = nI 0 := fun w => in_F (by omega) h (by omega)
            refine Or.inr ⟨?_, ?_⟩
            · rw [p_X4_routeRefusal]
              simp (disch := omega) only [lit, if_true, if_false, nI_leI, nI_ltI, nI_eq, nI_neg, nI_neg', nI_negE, ng_lt, ng_le, ng_nlt, ng_nle, ib_nI, nI_clamp, nI_add, nI_mul, nI_sub, nI_nn, if_pos, if_neg, decide_eq_true_eq, letw, leti, letl, Option.bind_some, nI_rem, hasSw_T hS eS hs, hasSw_T hS eS hx, in_same, i2, i4, i5]
            · rw [f_X10_isRoute]
              simp (disch := omega) only [lit, if_true, if_false, nI_leI, nI_ltI, nI_eq, nI_neg, nI_neg', nI_negE, ng_lt, ng_le, ng_nlt, ng_nle, ib_nI, nI_clamp, nI_add, nI_mul, nI_sub, nI_nn, if_pos, if_neg, decide_eq_true_eq, letw, leti, letl, Option.bind_some, nI_rem, isSw_T hS eSm hs, isSw_T hS eSm hx, i2, i4, i5]
        · have i4 : ∀ w, p_X10_in w x4 (nI 0) (nI 1000) = nI 0 := fun w => in_F (by omega) h (by omega)
          refine Or.inr ⟨?_, ?_⟩
          · rw [p_X4_routeRefusal]
            simp (disch := omega) only [lit, if_true, if_false, nI_leI, nI_ltI, nI_eq, nI_neg, nI_neg', nI_negE, ng_lt, ng_le, ng_nlt, ng_nle, ib_nI, nI_clamp, nI_add, nI_mul, nI_sub, nI_nn, if_pos, if_neg, decide_eq_true_eq, letw, leti, letl, Option.bind_some, nI_rem, hasSw_T hS eS hs, hasSw_T hS eS hx, in_same, i2, i4]
          · rw [f_X10_isRoute]
            simp (disch := omega) only [lit, if_true, if_false, nI_leI, nI_ltI, nI_eq, nI_neg, nI_neg', nI_negE, ng_lt, ng_le, ng_nlt, ng_nle, ib_nI, nI_clamp, nI_add, nI_mul, nI_sub, nI_nn, if_pos, if_neg, decide_eq_true_eq, letw, leti, letl, Option.bind_some, nI_rem, isSw_T hS eSm hs, isSw_T hS eSm hx, i2, i4]
      · have i2 : ∀ w, p_X10_in w x2 (nI 0) (nI 999999999) = nI 0 := fun w => in_F (by omega) h (by omega)
        refine Or.inr ⟨?_, ?_⟩
        · rw [p_X4_routeRefusal]
          simp (disch := omega) only [lit, if_true, if_false, nI_leI, nI_ltI, nI_eq, nI_neg, nI_neg', nI_negE, ng_lt, ng_le, ng_nlt, ng_nle, ib_nI, nI_clamp, nI_add, nI_mul, nI_sub, nI_nn, if_pos, if_neg, decide_eq_true_eq, letw, leti, letl, Option.bind_some, nI_rem, hasSw_T hS eS hs, in_same, i2]
        · rw [f_X10_isRoute]
          simp (disch := omega) only [lit, if_true, if_false, nI_leI, nI_ltI, nI_eq, nI_neg, nI_neg', nI_negE, ng_lt, ng_le, ng_nlt, ng_nle, ib_nI, nI_clamp, nI_add, nI_mul, nI_sub, nI_nn, if_pos, if_neg, decide_eq_true_eq, letw, leti, letl, Option.bind_some, nI_rem, isSw_T hS eSm hs, isSw_T hS eSm hx, i2]
    · refine Or.inr ⟨?_, ?_⟩
      · rw [p_X4_routeRefusal]
        simp only [lit, hasSw_F hS eS h, hasSw_T hS eS hs, if_true]
        simp (disch := omega) only [lit, if_true, if_false, nI_leI, nI_ltI, nI_eq, nI_neg, nI_neg', nI_negE, ng_lt, ng_le, ng_nlt, ng_nle, ib_nI, nI_clamp, nI_add, nI_mul, nI_sub, nI_nn, if_pos, if_neg, decide_eq_true_eq, letw, leti, letl, Option.bind_some, nI_rem, ite_self]
      · rw [f_X10_isRoute]
        simp (disch := omega) only [lit, if_true, if_false, nI_leI, nI_ltI, nI_eq, nI_neg, nI_neg', nI_negE, ng_lt, ng_le, ng_nlt, ng_nle, ib_nI, nI_clamp, nI_add, nI_mul, nI_sub, nI_nn, if_pos, if_neg, decide_eq_true_eq, letw, leti, letl, Option.bind_some, nI_rem, isSw_T hS eSm hs, isSw_F hS eSm h]
  · refine Or.inr ⟨?_, ?_⟩
    · rw [p_X4_routeRefusal]
      simp (disch := omega) only [lit, if_true, if_false, nI_leI, nI_ltI, nI_eq, nI_neg, nI_neg', nI_negE, ng_lt, ng_le, ng_nlt, ng_nle, ib_nI, nI_clamp, nI_add, nI_mul, nI_sub, nI_nn, if_pos, if_neg, decide_eq_true_eq, letw, leti, letl, Option.bind_some, nI_rem, hasSw_F hS eS h]
    · rw [f_X10_isRoute]
      simp (disch := omega) only [lit, if_true, if_false, nI_leI, nI_ltI, nI_eq, nI_neg, nI_neg', nI_negE, ng_lt, ng_le, ng_nlt, ng_nle, ib_nI, nI_clamp, nI_add, nI_mul, nI_sub, nI_nn, if_pos, if_neg, decide_eq_true_eq, letw, leti, letl, Option.bind_some, nI_rem, isSw_F hS eSm h]
theorem op_addRoute {t : Nat} {w : Wd} (H : Inv t w) (x1 x2 x3 x4 x5 : Int32) : ∃ r w1 w2, f_X9_addRoute w x1 x2 x3 x4 x5 = some (r, w1) ∧ f_X10_addRoute w1 x1 x2 x3 x4 x5 = some (r, w2) ∧ Inv t w2 := by
  obtain ⟨S, R, P, hV, hC⟩ := H.now
  have eR8 : w 8 1 1 = nI R := hV.1.2.2.2.2.1
  have eR : w 0 3 6 = nI R := hC.1.2.1.trans eR8
  have hR40 := hV.1.2.1
  by_cases hR : R < 40
  · obtain ⟨w1, p1, p2, p3, p4⟩ := act_push H
    obtain ⟨wc, c1, c2, c3⟩ := put_spec (n := 0) (w := w1) (x1 := x1) (x2 := x2) (x3 := x3) (x4 := x4) (x5 := x5) hR (by rw [p3]; exact eR)
    have hc8 : wc 8 = w 8 := by funext c; rw [c2 8 c (by omega), p4]
    rcases rt_check (wm := wc) hV hC (by rw [hc8]) x1 x2 x3 x4 x5 with ⟨s, p, x, c, l, g1, g2, g3, g4, g5, rfl, rfl, rfl, rfl, rfl, g6, g7⟩ | ⟨g1, -⟩
    · obtain ⟨w2, k1, k2, k3, k4⟩ := act_keep (wc := wc) H hc8
      obtain ⟨w3, r1, r2, r3⟩ := routes_spec (w := w2) (x1 := nI s) (x2 := nI p) (x3 := nI x) (x4 := nI c) (x5 := nI l) hR (by rw [k3]; exact eR8)
      have e31 : w3 8 1 1 = nI (R + 1) := by rw [r3]; rfl
      refine ⟨nI R, wc, w3, ?_, ?_, ?_⟩
      · rw [f_X9_addRoute, g6]
        simp (disch := omega) only [lit, if_true, if_false, nI_leI, nI_ltI, nI_eq, nI_neg, nI_neg', nI_negE, ng_lt, ng_le, ng_nlt, ng_nle, ib_nI, nI_clamp, nI_add, nI_mul, nI_sub, nI_nn, if_pos, if_neg, decide_eq_true_eq, letw, leti, letl, Option.bind_some, nI_rem, p1, c1]
      · rw [f_X10_addRoute]
        have e1 : wc 8 1 1 = nI R := by rw [hc8]; exact eR8
        simp (disch := omega) only [lit, if_true, if_false, nI_leI, nI_ltI, nI_eq, nI_neg, nI_neg', nI_negE, ng_lt, ng_le, ng_nlt, ng_nle, ib_nI, nI_clamp, nI_add, nI_mul, nI_sub, nI_nn, if_pos, if_neg, decide_eq_true_eq, letw, leti, letl, Option.bind_some, nI_rem, g7, e1, k1, r1, e31]
        rfl
      · refine act_inv H p2 c2 k2 r2 (Nat.le_refl t) H.1 ?_
        refine put_NR hV hC hR g1 g2 g3 g4 g5 (fun c i => ?_) (fun j => ?_)
        · rw [show w3 0 c = w2 0 c from r2 0 c (by omega), k4 0 (by omega), c3, p3]
        · rw [r3, k3]
    · rcases rt_check (wm := w) hV hC rfl x1 x2 x3 x4 x5 with ⟨s, p, x, c, l, -, -, -, -, -, -, -, -, -, -, g6, -⟩ | ⟨-, g2⟩
      · rw [g1, if_pos hR] at g6
        exact absurd g6 (by decide)
      · refine ⟨-1, w, w, ?_, ?_, H⟩
        · rw [f_X9_addRoute, g1]
          simp only [leti]
          rw [if_neg (by decide)]
          rfl
        · rw [f_X10_addRoute]
          simp (disch := omega) only [lit, if_true, if_false, nI_leI, nI_ltI, nI_eq, nI_neg, nI_neg', nI_negE, ng_lt, ng_le, ng_nlt, ng_nle, ib_nI, nI_clamp, nI_add, nI_mul, nI_sub, nI_nn, if_pos, if_neg, decide_eq_true_eq, letw, leti, letl, Option.bind_some, nI_rem, g2]
  · have hR : R = 40 := by omega
    subst hR
    rcases rt_check (wm := w) hV hC rfl x1 x2 x3 x4 x5 with ⟨s, p, x, c, l, -, -, -, -, -, rfl, rfl, rfl, rfl, rfl, g6, g7⟩ | ⟨g1, g2⟩
    · refine ⟨-3, w, w, ?_, ?_, H⟩
      · rw [f_X9_addRoute, g6]
        simp only [leti]
        rw [if_neg (by decide)]
        rfl
      · rw [f_X10_addRoute]
        simp (disch := omega) only [lit, if_true, if_false, nI_leI, nI_ltI, nI_eq, nI_neg, nI_neg', nI_negE, ng_lt, ng_le, ng_nlt, ng_nle, ib_nI, nI_clamp, nI_add, nI_mul, nI_sub, nI_nn, if_pos, if_neg, decide_eq_true_eq, letw, leti, letl, Option.bind_some, nI_rem, g7, eR8]
    · refine ⟨-1, w, w, ?_, ?_, H⟩
      · rw [f_X9_addRoute, g1]
        simp only [leti]
        rw [if_neg (by decide)]
        rfl
      · rw [f_X10_addRoute]
        simp (disch := omega) only [lit, if_true, if_false, nI_leI, nI_ltI, nI_eq, nI_neg, nI_neg', nI_negE, ng_lt, ng_le, ng_nlt, ng_nle, ib_nI, nI_clamp, nI_add, nI_mul, nI_sub, nI_nn, if_pos, if_neg, decide_eq_true_eq, letw, leti, letl, Option.bind_some, nI_rem, g2]
