/-! a number is ported: a new row, or a new switch in its row -/
def addN (N : Nat → Nat → Int32) (P : Nat) (x1 x2 : Int32) : Nat → Nat → Int32 := fun c i => if c = 10 ∧ i = 2 then nI (P + 1) else if c = 11 ∧ i = P then x1 else if c = 12 ∧ i = P then x2 else N c i
def addV (v : Nat → Int32) (P : Nat) (x1 x2 : Int32) : Nat → Int32 := fun j => if j = 2 then nI (P + 1) else if j = 350 + 2 * P then x1 else if j = 350 + 2 * P + 1 then x2 else v j
def setN (N : Nat → Nat → Int32) (k : Nat) (x2 : Int32) : Nat → Nat → Int32 := fun c i => if c = 12 ∧ i = k then x2 else N c i
theorem swOf_T {n P k : Nat} {x : Int32} {w : Wd} (hP : P ≤ 30) (hw : w n 10 2 = nI P) (hk : k < P) (he : w n 11 k = x) (hj : ∀ j, j < k → w n 11 j ≠ x) : f_X5_switchOf n w x = some (w n 12 k, w) := by
  rw [f_X5_switchOf, idx_T hP hw hk he hj]
  simp (disch := omega) only [lit, if_true, if_false, nI_leI, nI_ltI, nI_eq, nI_neg, nI_neg', nI_negE, ng_lt, ng_le, ng_nlt, ng_nle, ib_nI, nI_clamp, nI_add, nI_mul, nI_sub, nI_nn, if_pos, if_neg, decide_eq_true_eq, letw, leti, letl, Option.bind_some, nI_rem]
theorem swOf_F {n P : Nat} {x : Int32} {w : Wd} (hP : P ≤ 30) (hw : w n 10 2 = nI P) (hj : ∀ j, j < P → w n 11 j ≠ x) : f_X5_switchOf n w x = some (-9, w) := by
  rw [f_X5_switchOf, idx_F hP hw hj]
  simp (disch := omega) only [lit, if_true, if_false, nI_leI, nI_ltI, nI_eq, nI_neg, nI_neg', nI_negE, ng_lt, ng_le, ng_nlt, ng_nle, ib_nI, nI_clamp, nI_add, nI_mul, nI_sub, nI_nn, if_pos, if_neg, decide_eq_true_eq, letw, leti, letl, Option.bind_some, nI_rem]
theorem cput_new {n P : Nat} {w : Wd} {x1 x2 : Int32} (hP : P < 30) (hw : w n 10 2 = nI P) (hj : ∀ j, j < P → w n 11 j ≠ x1) : ∃ w', f_X5_put n w x1 x2 = some (-9, w') ∧ (∀ g c, g ≠ n → w' g c = w g c) ∧ ∀ c i, w' n c i = addN (w n) P x1 x2 c i := by
  rw [f_X5_put, idx_F (by omega) hw hj]
  simp (disch := omega) only [lit, if_true, if_false, nI_leI, nI_ltI, nI_eq, nI_neg, nI_neg', nI_negE, ng_lt, ng_le, ng_nlt, ng_nle, ib_nI, nI_clamp, nI_add, nI_mul, nI_sub, nI_nn, if_pos, if_neg, decide_eq_true_eq, leti, letl, Option.bind_some, nI_rem, hw]
  simp only [letw]
  rw [show wup w n 11 P x1 n 10 2 = nI P from by rw [wup_at, if_neg (by omega)]; exact hw]
  simp (disch := omega) only [lit, if_true, if_false, nI_leI, nI_ltI, nI_eq, nI_neg, nI_neg', nI_negE, ng_lt, ng_le, ng_nlt, ng_nle, ib_nI, nI_clamp, nI_add, nI_mul, nI_sub, nI_nn, if_pos, if_neg, decide_eq_true_eq, letw, leti, letl, Option.bind_some, nI_rem]
  rw [show wup (wup w n 11 P x1) n 12 P x2 n 10 2 = nI P from by rw [wup_at, if_neg (by omega), wup_at, if_neg (by omega)]; exact hw]
  refine ⟨_, rfl, ?_, ?_⟩
  · intro g c hg
    funext i
    simp only [wup_at, hg, false_and, if_false]
  · intro c i
    simp only [wup_at, true_and, addN, nI_add]
    by_cases h1 : c = 10 ∧ i = 2
    · rw [if_pos h1, if_pos h1]
    · rw [if_neg h1, if_neg h1]
      by_cases h2 : c = 11 ∧ i = P
      · rw [if_pos h2, if_neg (by omega), if_pos h2]
      · rw [if_neg h2, if_neg h2]
theorem cput_old {n P k : Nat} {w : Wd} {x1 x2 : Int32} (hP : P ≤ 30) (hw : w n 10 2 = nI P) (hk : k < P) (he : w n 11 k = x1) (hj : ∀ j, j < k → w n 11 j ≠ x1) : ∃ w', f_X5_put n w x1 x2 = some (w n 12 k, w') ∧ (∀ g c, g ≠ n → w' g c = w g c) ∧ ∀ c i, w' n c i = setN (w n) k x2 c i := by
  rw [f_X5_put, idx_T hP hw hk he hj]
  simp (disch := omega) only [lit, if_true, if_false, nI_leI, nI_ltI, nI_eq, nI_neg, nI_neg', nI_negE, ng_lt, ng_le, ng_nlt, ng_nle, ib_nI, nI_clamp, nI_add, nI_mul, nI_sub, nI_nn, if_pos, if_neg, decide_eq_true_eq, letw, leti, letl, Option.bind_some, nI_rem]
  refine ⟨_, rfl, ?_, ?_⟩
  · intro g c hg
    funext i
    simp only [wup_at, hg, false_and, if_false]
  · intro c i
    simp only [wup_at, true_and, setN]
theorem mput_new {P : Nat} {w : Wd} {x1 x2 : Int32} (hP : P < 30) (hw : w 8 1 2 = nI P) (hj : ∀ j, j < P → w 8 1 (350 + 2 * j) ≠ x1) : ∃ w', f_X10_ports w x1 x2 = some (-9, w') ∧ (∀ g c, ¬ (g = 8 ∧ c = 1) → w' g c = w g c) ∧ ∀ j, w' 8 1 j = addV (w 8 1) P x1 x2 j := by
  rw [f_X10_ports, por_F (by omega) hw hj]
  simp (disch := omega) only [lit, if_true, if_false, nI_leI, nI_ltI, nI_eq, nI_neg, nI_neg', nI_negE, ng_lt, ng_le, ng_nlt, ng_nle, ib_nI, nI_clamp, nI_add, nI_mul, nI_sub, nI_nn, if_pos, if_neg, decide_eq_true_eq, leti, letl, Option.bind_some, nI_rem, j_X10_ports_29, hw]
  simp only [letw]
  rw [show wup w 8 1 (350 + 2 * P) x1 8 1 2 = nI P from by rw [wup_at, if_neg (by omega)]; exact hw]
  simp (disch := omega) only [lit, if_true, if_false, nI_leI, nI_ltI, nI_eq, nI_neg, nI_neg', nI_negE, ng_lt, ng_le, ng_nlt, ng_nle, ib_nI, nI_clamp, nI_add, nI_mul, nI_sub, nI_nn, if_pos, if_neg, decide_eq_true_eq, letw, leti, letl, Option.bind_some, nI_rem, j_X10_ports_65]
  refine ⟨_, rfl, ?_, ?_⟩
  · intro g c hg
    simp only [wup_row, hg, if_false]
  · intro j
    simp only [wup_at, true_and, addV]
    by_cases h1 : j = 2
    · subst h1
      simp (disch := omega) only [lit, if_true, if_false, nI_leI, nI_ltI, nI_eq, nI_neg, nI_neg', nI_negE, ng_lt, ng_le, ng_nlt, ng_nle, ib_nI, nI_clamp, nI_add, nI_mul, nI_sub, nI_nn, if_pos, if_neg, decide_eq_true_eq, letw, leti, letl, Option.bind_some, nI_rem]
    · by_cases h2 : j = 350 + 2 * P + 1
      · subst h2
        simp (disch := omega) only [lit, if_true, if_false, nI_leI, nI_ltI, nI_eq, nI_neg, nI_neg', nI_negE, ng_lt, ng_le, ng_nlt, ng_nle, ib_nI, nI_clamp, nI_add, nI_mul, nI_sub, nI_nn, if_pos, if_neg, decide_eq_true_eq, letw, leti, letl, Option.bind_some, nI_rem]
      · simp only [h1, h2, if_false]
theorem mput_old {P k : Nat} {w : Wd} {x1 x2 : Int32} (hP : P ≤ 30) (hw : w 8 1 2 = nI P) (hk : k < P) (he : w 8 1 (350 + 2 * k) = x1) (hj : ∀ j, j < k → w 8 1 (350 + 2 * j) ≠ x1) : f_X10_ports w x1 x2 = some (w 8 1 (350 + 2 * k + 1), wup w 8 1 (350 + 2 * k + 1) x2) := by
  rw [f_X10_ports, por_T hP hw hk he hj]
  simp (disch := omega) only [lit, if_true, if_false, nI_leI, nI_ltI, nI_eq, nI_neg, nI_neg', nI_negE, ng_lt, ng_le, ng_nlt, ng_nle, ib_nI, nI_clamp, nI_add, nI_mul, nI_sub, nI_nn, if_pos, if_neg, decide_eq_true_eq, letw, leti, letl, Option.bind_some, nI_rem, j_X10_ports_29, j_X10_ports_65]
theorem add_NR {t S R P : Nat} {N N' : Nat → Nat → Int32} {v v' : Nat → Int32} {n q : Nat} (hV : Vd t v S R P) (hC : Cp N v S R P) (hP : P < 30) (hn : 1 ≤ n ∧ n ≤ 999999999) (hq : q < S) (hN : ∀ c' i, N' c' i = addN N P (nI n) (nI q) c' i) (hv : ∀ j, v' j = addV v P (nI n) (nI q) j) : NR t N' v' := by
  have hN' : N' = addN N P (nI n) (nI q) := funext fun c => funext fun i => hN c i
  have hv' : v' = addV v P (nI n) (nI q) := funext hv
  subst hN'
  subst hv'
  have vne : ∀ j, j ≠ 2 → ¬ (350 + 2 * P ≤ j ∧ j < 352 + 2 * P) → addV v P (nI n) (nI q) j = v j := by
    intro j h1 h2
    unfold addV
    rw [if_neg h1, if_neg (by omega), if_neg (by omega)]
  have Nne : ∀ c' i, ¬ (11 ≤ c' ∧ c' ≤ 12 ∧ i = P) → ¬ (c' = 10 ∧ i = 2) → addN N P (nI n) (nI q) c' i = N c' i := by
    intro c' i h1 h2
    unfold addN
    rw [if_neg h2, if_neg (by omega), if_neg (by omega)]
  refine ⟨S, R, P + 1, ?_, ?_⟩
  · obtain ⟨⟨a1, a2, a3, a4, a5, a6⟩, b1, b2, b3, b4, b5, b6, b7, b8⟩ := hV
    refine ⟨⟨a1, a2, by omega, by rw [vne _ (by omega) (by omega)]; exact a4, by rw [vne _ (by omega) (by omega)]; exact a5, rfl⟩, by rw [vne _ (by omega) (by omega)]; exact b1, by rw [vne _ (by omega) (by omega)]; exact b2, ?_, ?_, ?_, rtA a2 (Nat.le_refl _) (Nat.le_refl _) (fun j h1 h2 => vne _ (by omega) (by omega)) b6, ?_, clA (by omega) (fun j h1 h2 => vne _ (by omega) (by omega)) b8⟩
    · rw [vne _ (by omega) (by omega), cntA (fun j h1 h2 => vne _ (by omega) (by omega)) 10 (by omega)]; exact b3
    · intro s hs; rw [vne _ (by omega) (by omega)]; exact b4 s hs
    · intro s hs; rw [vne _ (by omega) (by omega)]; exact b5 s hs
    · intro k hk
      by_cases hkP : k = P
      · subst hkP
        refine ⟨n, q, hn.1, hn.2, hq, ?_, ?_⟩
        · simp only [addV]; simp (disch := omega) only [lit, if_true, if_false, nI_leI, nI_ltI, nI_eq, nI_neg, nI_neg', nI_negE, ng_lt, ng_le, ng_nlt, ng_nle, ib_nI, nI_clamp, nI_add, nI_mul, nI_sub, nI_nn, if_pos, if_neg, decide_eq_true_eq, letw, leti, letl, Option.bind_some, nI_rem]
        · simp only [addV]; simp (disch := omega) only [lit, if_true, if_false, nI_leI, nI_ltI, nI_eq, nI_neg, nI_neg', nI_negE, ng_lt, ng_le, ng_nlt, ng_nle, ib_nI, nI_clamp, nI_add, nI_mul, nI_sub, nI_nn, if_pos, if_neg, decide_eq_true_eq, letw, leti, letl, Option.bind_some, nI_rem]
      · obtain ⟨n', q', z1, z2, z3, z4, z5⟩ := b7 k (by omega)
        refine ⟨n', q', z1, z2, z3, ?_, ?_⟩
        · dsimp only; rw [vne _ (by omega) (by omega)]; exact z4
        · dsimp only; rw [vne _ (by omega) (by omega)]; exact z5
  · obtain ⟨⟨a1, a2, a3, a4, a5, a6⟩, ll, b1, b2, b3, b4, b5⟩ := hC
    refine ⟨⟨?_, ?_, ?_, ?_, ?_, ?_⟩, cLA ?_ (fun s hs => vne _ (by omega) (by omega)) ll, ?_, ?_, cRA hV.1.2.1 (fun c i h1 h2 => ?_) (fun j h1 h2 => vne _ (by omega) (by omega)) b3, ?_, cCA (fun c i h1 h2 => ?_) (fun j h1 h2 => vne _ (by omega) (by omega)) b5⟩
    · rw [Nne _ _ (by omega) (by omega), vne _ (by omega) (by omega)]; exact a1
    · rw [Nne _ _ (by omega) (by omega), vne _ (by omega) (by omega)]; exact a2
    · rfl
    · rw [Nne _ _ (by omega) (by omega), vne _ (by omega) (by omega)]; exact a4
    · rw [Nne _ _ (by omega) (by omega), vne _ (by omega) (by omega)]; exact a5
    · rw [Nne _ _ (by omega) (by omega), vne _ (by omega) (by omega)]; exact a6
    · rw [Nne _ _ (by omega) (by omega)]
    · intro s hs; rw [Nne _ _ (by omega) (by omega), vne _ (by omega) (by have := hV.1.1; omega)]; exact b1 s hs
    · intro s hs; rw [Nne _ _ (by omega) (by omega), vne _ (by omega) (by omega)]; exact b2 s hs
    · rw [Nne _ _ (by omega) (by omega)]
    · intro k hk
      by_cases hkP : k = P
      · subst hkP
        refine ⟨?_, ?_⟩
        · simp only [addN, addV]; simp (disch := omega) only [lit, if_true, if_false, nI_leI, nI_ltI, nI_eq, nI_neg, nI_neg', nI_negE, ng_lt, ng_le, ng_nlt, ng_nle, ib_nI, nI_clamp, nI_add, nI_mul, nI_sub, nI_nn, if_pos, if_neg, decide_eq_true_eq, letw, leti, letl, Option.bind_some, nI_rem, and_self]
        · simp only [addN, addV]; simp (disch := omega) only [lit, if_true, if_false, nI_leI, nI_ltI, nI_eq, nI_neg, nI_neg', nI_negE, ng_lt, ng_le, ng_nlt, ng_nle, ib_nI, nI_clamp, nI_add, nI_mul, nI_sub, nI_nn, if_pos, if_neg, decide_eq_true_eq, letw, leti, letl, Option.bind_some, nI_rem, and_self]
      · rw [Nne _ _ (by omega) (by omega), vne _ (by omega) (by omega), Nne _ _ (by omega) (by omega), vne _ (by omega) (by omega)]
        exact b4 k (by omega)
    · rw [Nne _ _ (by omega) (by omega)]
theorem set_NR {t S R P : Nat} {N N' : Nat → Nat → Int32} {v v' : Nat → Int32} {k q : Nat} (hV : Vd t v S R P) (hC : Cp N v S R P) (hk : k < P) (hq : q < S) (hN : ∀ c' i, N' c' i = setN N k (nI q) c' i) (hv : ∀ j, v' j = upd v (350 + 2 * k + 1) (nI q) j) : NR t N' v' := by
  have hN' : N' = setN N k (nI q) := funext fun c => funext fun i => hN c i
  have hv' : v' = upd v (350 + 2 * k + 1) (nI q) := funext hv
  subst hN'
  subst hv'
  have hP := hV.1.2.2.1
  have Nne : ∀ c' i, ¬ (c' = 12 ∧ i = k) → setN N k (nI q) c' i = N c' i := fun c' i h => if_neg h
  refine ⟨S, R, P, ?_, ?_⟩
  · obtain ⟨⟨a1, a2, a3, a4, a5, a6⟩, b1, b2, b3, b4, b5, b6, b7, b8⟩ := hV
    refine ⟨⟨a1, a2, a3, by rw [upd_ne (by omega)]; exact a4, by rw [upd_ne (by omega)]; exact a5, by rw [upd_ne (by omega)]; exact a6⟩, by rw [upd_ne (by omega)]; exact b1, by rw [upd_ne (by omega)]; exact b2, ?_, ?_, ?_, rtA a2 (Nat.le_refl _) (Nat.le_refl _) (fun j h1 h2 => upd_ne (by omega)) b6, ?_, clA (by omega) (fun j h1 h2 => upd_ne (by omega)) b8⟩
    · rw [upd_ne (by omega), cntA (fun j h1 h2 => upd_ne (by omega)) 10 (by omega)]; exact b3
    · intro s hs; rw [upd_ne (by omega)]; exact b4 s hs
    · intro s hs; rw [upd_ne (by omega)]; exact b5 s hs
    · intro k' hk'
      obtain ⟨n', q', z1, z2, z3, z4, z5⟩ := b7 k' (by omega)
      by_cases hkP : k' = k
      · subst hkP
        refine ⟨n', q, z1, z2, hq, ?_, ?_⟩
        · dsimp only; rw [upd_ne (by omega)]; exact z4
        · exact upd_eq
      · refine ⟨n', q', z1, z2, z3, ?_, ?_⟩
        · dsimp only; rw [upd_ne (by omega)]; exact z4
        · dsimp only; rw [upd_ne (by omega)]; exact z5
  · obtain ⟨⟨a1, a2, a3, a4, a5, a6⟩, ll, b1, b2, b3, b4, b5⟩ := hC
    refine ⟨⟨?_, ?_, ?_, ?_, ?_, ?_⟩, cLA ?_ (fun s hs => upd_ne (by omega)) ll, ?_, ?_, cRA hV.1.2.1 (fun c i h1 h2 => ?_) (fun j h1 h2 => upd_ne (by omega)) b3, ?_, cCA (fun c i h1 h2 => ?_) (fun j h1 h2 => upd_ne (by omega)) b5⟩
    · rw [Nne _ _ (by omega), upd_ne (by omega)]; exact a1
    · rw [Nne _ _ (by omega), upd_ne (by omega)]; exact a2
    · rw [Nne _ _ (by omega), upd_ne (by omega)]; exact a3
    · rw [Nne _ _ (by omega), upd_ne (by omega)]; exact a4
    · rw [Nne _ _ (by omega), upd_ne (by omega)]; exact a5
    · rw [Nne _ _ (by omega), upd_ne (by omega)]; exact a6
    · rw [Nne _ _ (by omega)]
    · intro s hs; rw [Nne _ _ (by omega), upd_ne (by have := hV.1.1; omega)]; exact b1 s hs
    · intro s hs; rw [Nne _ _ (by omega), upd_ne (by omega)]; exact b2 s hs
    · rw [Nne _ _ (by omega)]
    · intro k' hk'
      by_cases hkP : k' = k
      · subst hkP
        refine ⟨?_, ?_⟩
        · rw [Nne _ _ (by omega), upd_ne (by omega)]; exact (b4 k' hk').1
        · rw [upd_eq]; exact if_pos ⟨rfl, rfl⟩
      · rw [Nne _ _ (by omega), upd_ne (by omega), Nne _ _ (by omega), upd_ne (by omega)]
        exact b4 k' hk'
    · rw [Nne _ _ (by omega)]
/-- porting a number, both sides: the changes alone -/
theorem port_both {t S R P : Nat} {w wm : Wd} {n q : Nat} (hV : Vd t (w 8 1) S R P) (hC : Cp (w 0) (w 8 1) S R P) (hn : 1 ≤ n ∧ n ≤ 999999999) (hq : q < S) (hok : P < 30 ∨ ∃ k, k < P ∧ w 0 11 k = nI n) (h8 : wm 8 1 = w 8 1) :
    ∃ r wc w3, f_X5_put 0 w (nI n) (nI q) = some (r, wc) ∧ (∀ g c, g ≠ 0 → wc g c = w g c) ∧ f_X10_ports wm (nI n) (nI q) = some (r, w3) ∧ (∀ g c, ¬ (g = 8 ∧ c = 1) → w3 g c = wm g c) ∧ NR t (wc 0) (w3 8 1) := by
  have hP := hV.1.2.2.1
  have eP8 : w 8 1 2 = nI P := hV.1.2.2.2.2.2
  have eP : w 0 10 2 = nI P := hC.1.2.2.1.trans eP8
  have eq11 : ∀ j, j < P → w 0 11 j = w 8 1 (350 + 2 * j) := fun j hj => (hC.2.2.2.2.2.1 j hj).1
  rcases first (p := fun j => w 0 11 j = nI n) P with ⟨k, hk, he, hj⟩ | hj
  · obtain ⟨wc, c1, c2, c3⟩ := cput_old (n := 0) (w := w) (x1 := nI n) (x2 := nI q) hP eP hk he hj
    have m1 := mput_old (w := wm) (x1 := nI n) (x2 := nI q) hP (by rw [h8]; exact eP8) hk (by rw [h8, ← eq11 k hk]; exact he) (fun j hjk => by rw [h8, ← eq11 j (by omega)]; exact hj j hjk)
    refine ⟨w 0 12 k, wc, wup wm 8 1 (350 + 2 * k + 1) (nI q), c1, c2, ?_, ?_, ?_⟩
    · rw [m1, h8, (hC.2.2.2.2.2.1 k hk).2]
    · intro g c hg
      rw [wup_row, if_neg hg]
    · refine set_NR hV hC hk hq c3 (fun j => ?_)
      rw [wup_row, if_pos (by omega), h8]
  · have hP30 : P < 30 := by
      rcases hok with h | ⟨k, hk, e⟩
      · exact h
      · exact absurd e (hj k hk)
    obtain ⟨wc, c1, c2, c3⟩ := cput_new (n := 0) (w := w) (x1 := nI n) (x2 := nI q) hP30 eP hj
    obtain ⟨w3, m1, m2, m3⟩ := mput_new (w := wm) (x1 := nI n) (x2 := nI q) hP30 (by rw [h8]; exact eP8) (fun j hjP => by rw [h8, ← eq11 j hjP]; exact hj j hjP)
    refine ⟨-9, wc, w3, c1, c2, m1, m2, ?_⟩
    exact add_NR hV hC hP30 hn hq c3 (fun j => by rw [m3, h8])
