theorem rt_chk {t S R P : Nat} {w wm : Wd} {v : Nat → Int32} (hV : Vd t (v) S R P) (hC : Cp (w 0) (v) S R P) (hm : wm 8 1 = v) (x1 x2 x3 x4 x5 : Int32) :
    (∃ s p x c l : Nat, s < S ∧ p ≤ 999999999 ∧ x < S ∧ c ≤ 1000 ∧ (1 ≤ l ∧ l ≤ 20) ∧ x1 = nI s ∧ x2 = nI p ∧ x3 = nI x ∧ x4 = nI c ∧ x5 = nI l ∧ p_X4_routeRefusal 0 w x1 x2 x3 x4 x5 = (if R < 40 then nI 0 else -nI 3) ∧ f_X10_isRoute wm x1 x2 x3 x4 x5 = some (nI 1, wm)) ∨
    (p_X4_routeRefusal 0 w x1 x2 x3 x4 x5 = -nI 1 ∧ f_X10_isRoute wm x1 x2 x3 x4 x5 = some (nI 0, wm)) := by
  have hS := hV.1.1
  have eS8 : v 0 = nI S := hV.1.2.2.2.1
  have eS : w 0 0 5 = nI S := hC.1.1.trans eS8
  have eSm : wm 8 1 0 = nI S := by rw [hm]; exact eS8
  have hR := hV.1.2.1
  have eR : w 0 3 6 = nI R := hC.1.2.1.trans hV.1.2.2.2.2.1
  rcases rl x1 S with ⟨s, hs, rfl⟩ | h
  · rcases rl x3 S with ⟨x, hx, rfl⟩ | h
    · rcases rg x2 0 999999999 with ⟨p, h1, h2, rfl⟩ | h
      · have i2 : ∀ w, p_X10_in w (nI p) (nI 0) (nI 999999999) = nI 1 := fun w => in_T h1 h2 (by omega)
        rcases rg x4 0 1000 with ⟨c, h3, h4, rfl⟩ | h
        · have i4 : ∀ w, p_X10_in w (nI c) (nI 0) (nI 1000) = nI 1 := fun w => in_T h3 h4 (by omega)
          rcases rg x5 1 20 with ⟨l, h5, h6, rfl⟩ | h
          · have i5 : ∀ w, p_X10_in w (nI l) (nI 1) (nI 20) = nI 1 := fun w => in_T h5 h6 (by omega)
            refine Or.inl ⟨s, p, x, c, l, hs, h2, hx, h4, ⟨h5, h6⟩, rfl, rfl, rfl, rfl, rfl, ?_, ?_⟩
            · rw [p_X4_routeRefusal]
              simp (disch := omega) only [lit, if_true, if_false, nI_leI, nI_ltI, nI_eq, nI_neg, nI_neg', nI_negE, ng_lt, ng_le, ng_nlt, ng_nle, ib_nI, nI_clamp, nI_add, nI_mul, nI_sub, nI_nn, if_pos, if_neg, decide_eq_true_eq, letw, leti, letl, Option.bind_some, nI_rem, hasSw_T hS eS hs, hasSw_T hS eS hx, in_same, i2, i4, i5, p_X6_size, eR]
            · rw [f_X10_isRoute]
              simp (disch := omega) only [lit, if_true, if_false, nI_leI, nI_ltI, nI_eq, nI_neg, nI_neg', nI_negE, ng_lt, ng_le, ng_nlt, ng_nle, ib_nI, nI_clamp, nI_add, nI_mul, nI_sub, nI_nn, if_pos, if_neg, decide_eq_true_eq, letw, leti, letl, Option.bind_some, nI_rem, isSw_T hS eSm hs, isSw_T hS eSm hx, i2, i4, i5]
          · have i5 : ∀ w, p_X10_in w x5 (nI 1) (nI 20) = nI 0 := fun w => in_F (by omega) h (by omega)
            refine Or.inr ⟨?_, ?_⟩
            · rw [p_X4_routeRefusal]
              simp (disch := omega) only [lit, if_true, if_false, nI_leI, nI_ltI, nI_eq, nI_neg, nI_neg', nI_negE, ng_lt, ng_le, ng_nlt, ng_nle, ib_nI, nI_clamp, nI_add, nI_mul, nI_sub, nI_nn, if_pos, if_neg, decide_eq_true_eq, letw, leti, letl, Option.bind_some, nI_rem, hasSw_T hS eS hs, hasSw_T hS eS hx, in_same, i2, i4, i5]
            · rw [f_X10_isRoute]
              simp (disch := omega) only [lit, if_true, if_false, nI_leI, nI_ltI, nI_eq, nI_neg, nI_neg', nI_negE, ng_lt, ng_le, ng_nlt, ng_nle, ib_nI, nI_clamp, nI_add, nI_mul, nI_sub, nI_nn, if_pos, if_neg, decide_eq_true_eq, letw, leti, letl, Option.bind_some, nI_rem, isSw_T hS eSm hs, isSw_T hS eSm hx, i2, i4, i5]
        · have i4 : ∀ w, p_X10_in w x4 (nI 0) (nI 1000) = nI 0 := fun w => in_F (by omega) h (by omega)
          refine Or.inr ⟨?_, ?_⟩
          · rw [p_X4_routeRefusal]
            simp (disch := omega) only [lit, if_true, if_false, nI_leI, nI_ltI, nI_eq, nI_neg, nI_neg', nI_negE, ng_lt, ng_le, ng_nlt, ng_nle, ib_nI, nI_clamp, nI_add, nI_mul, nI_sub, nI_nn, if_pos, if_neg, decide_eq_true_eq, letw, leti, letl, Option.bind_some, nI_rem, hasSw_T hS eS hs, hasSw_T hS eS hx, in_same, i2, i4]
          · rw [f_X10_isRoute]
            simp (disch := omega) only [lit, if_true, if_false, nI_leI, nI_ltI, nI_eq, nI_neg, nI_neg', nI_negE, ng_lt, ng_le, ng_nlt, ng_nle, ib_nI, nI_clamp, nI_add, nI_mul, nI_sub, nI_nn, if_pos, if_neg, decide_eq_true_eq, letw, leti, letl, Option.bind_some, nI_rem, isSw_T hS eSm hs, isSw_T hS eSm hx, i2, i4]
      · have i2 : ∀ w, p_X10_in w x2 (nI 0) (nI 999999999) = nI 0 := fun w => in_F (by omega) h (by omega)
        refine Or.inr ⟨?_, ?_⟩
        · rw [p_X4_routeRefusal]
          simp (disch := omega) only [lit, if_true, if_false, nI_leI, nI_ltI, nI_eq, nI_neg, nI_neg', nI_negE, ng_lt, ng_le, ng_nlt, ng_nle, ib_nI, nI_clamp, nI_add, nI_mul, nI_sub, nI_nn, if_pos, if_neg, decide_eq_true_eq, letw, leti, letl, Option.bind_some, nI_rem, hasSw_T hS eS hs, in_same, i2]
        · rw [f_X10_isRoute]
          simp (disch := omega) only [lit, if_true, if_false, nI_leI, nI_ltI, nI_eq, nI_neg, nI_neg', nI_negE, ng_lt, ng_le, ng_nlt, ng_nle, ib_nI, nI_clamp, nI_add, nI_mul, nI_sub, nI_nn, if_pos, if_neg, decide_eq_true_eq, letw, leti, letl, Option.bind_some, nI_rem, isSw_T hS eSm hs, isSw_T hS eSm hx, i2]
    · refine Or.inr ⟨?_, ?_⟩
      · rw [p_X4_routeRefusal]
        simp only [lit, hasSw_F hS eS h, hasSw_T hS eS hs, if_true]
        simp (disch := omega) only [lit, if_true, if_false, nI_leI, nI_ltI, nI_eq, nI_neg, nI_neg', nI_negE, ng_lt, ng_le, ng_nlt, ng_nle, ib_nI, nI_clamp, nI_add, nI_mul, nI_sub, nI_nn, if_pos, if_neg, decide_eq_true_eq, letw, leti, letl, Option.bind_some, nI_rem, ite_self]
      · rw [f_X10_isRoute]
        simp (disch := omega) only [lit, if_true, if_false, nI_leI, nI_ltI, nI_eq, nI_neg, nI_neg', nI_negE, ng_lt, ng_le, ng_nlt, ng_nle, ib_nI, nI_clamp, nI_add, nI_mul, nI_sub, nI_nn, if_pos, if_neg, decide_eq_true_eq, letw, leti, letl, Option.bind_some, nI_rem, isSw_T hS eSm hs, isSw_F hS eSm h]
  · refine Or.inr ⟨?_, ?_⟩
    · rw [p_X4_routeRefusal]
      simp (disch := omega) only [lit, if_true, if_false, nI_leI, nI_ltI, nI_eq, nI_neg, nI_neg', nI_negE, ng_lt, ng_le, ng_nlt, ng_nle, ib_nI, nI_clamp, nI_add, nI_mul, nI_sub, nI_nn, if_pos, if_neg, decide_eq_true_eq, letw, leti, letl, Option.bind_some, nI_rem, hasSw_F hS eS h]
    · rw [f_X10_isRoute]
      simp (disch := omega) only [lit, if_true, if_false, nI_leI, nI_ltI, nI_eq, nI_neg, nI_neg', nI_negE, ng_lt, ng_le, ng_nlt, ng_nle, ib_nI, nI_clamp, nI_add, nI_mul, nI_sub, nI_nn, if_pos, if_neg, decide_eq_true_eq, letw, leti, letl, Option.bind_some, nI_rem, isSw_F hS eSm h]
theorem portRef2 {t S R P : Nat} {w : Wd} {v : Nat → Int32} {n q : Nat} (hV : Vd t (v) S R P) (hC : Cp (w 0) (v) S R P) (hn : 1 ≤ n ∧ n ≤ 999999999) (hq : q < S) : f_X4_portRefusal 0 w (nI n) (nI q) = some ((if P < 30 ∨ ∃ k, k < P ∧ w 0 11 k = nI n then nI 0 else -nI 3), w) := by
  have hS := hV.1.1
  have eS : w 0 0 5 = nI S := hC.1.1.trans hV.1.2.2.2.1
  have hP := hV.1.2.2.1
  have eP : w 0 10 2 = nI P := hC.1.2.2.1.trans hV.1.2.2.2.2.2
  have hn1 := (isNum_T (w := w) hn.1 hn.2).1
  rcases first (p := fun j => w 0 11 j = nI n) P with ⟨k, hk, he, hj⟩ | hj
  · rw [if_pos (Or.inr ⟨k, hk, he⟩), f_X4_portRefusal]
    obtain ⟨n', q', z1, z2, z3, z4, z5⟩ := hV.2.2.2.2.2.2.2.1 k hk
    have e12 : w 0 12 k = nI q' := (hC.2.2.2.2.2.1 k hk).2.trans z5
    simp (disch := omega) only [lit, if_true, if_false, nI_leI, nI_ltI, nI_eq, nI_neg, nI_neg', nI_negE, ng_lt, ng_le, ng_nlt, ng_nle, ib_nI, nI_clamp, nI_add, nI_mul, nI_sub, nI_nn, if_pos, if_neg, decide_eq_true_eq, letw, leti, letl, Option.bind_some, nI_rem, hasSw_T hS eS hq, hn1, swOf_T hP eP hk he hj, e12, j_X4_portRefusal_35]
  · have hno : ¬ ∃ k, k < P ∧ w 0 11 k = nI n := fun ⟨k, hk, e⟩ => hj k hk e
    by_cases h30 : P < 30
    · rw [if_pos (Or.inl h30), f_X4_portRefusal]
      simp (disch := omega) only [lit, if_true, if_false, nI_leI, nI_ltI, nI_eq, nI_neg, nI_neg', nI_negE, ng_lt, ng_le, ng_nlt, ng_nle, ib_nI, nI_clamp, nI_add, nI_mul, nI_sub, nI_nn, if_pos, if_neg, decide_eq_true_eq, letw, leti, letl, Option.bind_some, nI_rem, hasSw_T hS eS hq, hn1, swOf_F hP eP hj, j_X4_portRefusal_35, p_X5_size, eP]
    · have hno2 : ¬ (P < 30 ∨ ∃ k, k < P ∧ w 0 11 k = nI n) := fun z => Or.elim z h30 hno
      rw [if_neg hno2, f_X4_portRefusal]
      simp (disch := omega) only [lit, if_true, if_false, nI_leI, nI_ltI, nI_eq, nI_neg, nI_neg', nI_negE, ng_lt, ng_le, ng_nlt, ng_nle, ib_nI, nI_clamp, nI_add, nI_mul, nI_sub, nI_nn, if_pos, if_neg, decide_eq_true_eq, letw, leti, letl, Option.bind_some, nI_rem, hasSw_T hS eS hq, hn1, swOf_F hP eP hj, j_X4_portRefusal_35, p_X5_size, eP]
theorem port_bth {t S R P : Nat} {w wm : Wd} {v : Nat → Int32} {n q : Nat} (hV : Vd t (v) S R P) (hC : Cp (w 0) (v) S R P) (hn : 1 ≤ n ∧ n ≤ 999999999) (hq : q < S) (hok : P < 30 ∨ ∃ k, k < P ∧ w 0 11 k = nI n) (h8 : wm 8 1 = v) :
    ∃ r wc w3, f_X5_put 0 w (nI n) (nI q) = some (r, wc) ∧ (∀ g c, g ≠ 0 → wc g c = w g c) ∧ f_X10_ports wm (nI n) (nI q) = some (r, w3) ∧ (∀ g c, ¬ (g = 8 ∧ c = 1) → w3 g c = wm g c) ∧ NR t (wc 0) (w3 8 1) := by
  have hP := hV.1.2.2.1
  have eP8 : v 2 = nI P := hV.1.2.2.2.2.2
  have eP : w 0 10 2 = nI P := hC.1.2.2.1.trans eP8
  have eq11 : ∀ j, j < P → w 0 11 j = v (350 + 2 * j) := fun j hj => (hC.2.2.2.2.2.1 j hj).1
  rcases first (p := fun j => w 0 11 j = nI n) P with ⟨k, hk, he, hj⟩ | hj
  · obtain ⟨wc, c1, c2, c3⟩ := cput_old (n := 0) (w := w) (x1 := nI n) (x2 := nI q) hP eP hk he hj
    have m1 := mput_old (w := wm) (x1 := nI n) (x2 := nI q) hP (by rw [h8]; exact eP8) hk (by rw [h8, ← eq11 k hk]; exact he) (fun j hjk => by rw [h8, ← eq11 j (by omega)]; exact hj j hjk)
    refine ⟨w 0 12 k, wc, wup wm 8 1 (350 + 2 * k + 1) (nI q), c1, c2, ?_, ?_, ?_⟩
    · rw [m1, h8, (hC.2.2.2.2.2.1 k hk).2]
    · intro g c hg
      rw [wup_row, if_neg hg]
    · refine set_NR hV hC hk hq c3 (fun j => ?_)
      rw [wup_row, if_pos (by omega), h8]
  · have hP30 : P < 30 := by
      rcases hok with h | ⟨k, hk, e⟩
      · exact h
      · exact absurd e (hj k hk)
    obtain ⟨wc, c1, c2, c3⟩ := cput_new (n := 0) (w := w) (x1 := nI n) (x2 := nI q) hP30 eP hj
    obtain ⟨w3, m1, m2, m3⟩ := mput_new (w := wm) (x1 := nI n) (x2 := nI q) hP30 (by rw [h8]; exact eP8) (fun j hjP => by rw [h8, ← eq11 j hjP]; exact hj j hjP)
    refine ⟨-9, wc, w3, c1, c2, m1, m2, ?_⟩
    exact add_NR hV hC hP30 hn hq c3 (fun j => by rw [m3, h8])

theorem look_NR {t S R P s M b : Nat} {N N' : Nat → Nat → Int32} {v v' : Nat → Int32} (hV : Vd t v S R P) (hC : Cp N v S R P) (hs : s < S) (m1 : M < 256) (m2 : b < 2) (m3 : ∀ L, N 0 6 = nI L → L < 256 → ∀ j, j < 8 → M.testBit j = if j = s then decide (b = 1) else L.testBit j) (eN : ∀ c i, N' c i = if c = 0 ∧ i = 6 then nI M else N c i) (eV : v' = upd v (10 + s) (nI b)) : NR t N' v' := by
  obtain ⟨L, l1, l2, l3⟩ := hC.2.1
  have hS := hV.1.1
  refine ⟨S, R, P, ?_, ?_⟩
  · rw [eV]
    obtain ⟨⟨a1, a2, a3, a4, a5, a6⟩, b1, b2, b3, b4, b5, b6, b7, b8⟩ := hV
    refine ⟨⟨a1, a2, a3, by rw [upd_ne (by omega)]; exact a4, by rw [upd_ne (by omega)]; exact a5, by rw [upd_ne (by omega)]; exact a6⟩, by rw [upd_ne (by omega)]; exact b1, by rw [upd_ne (by omega)]; exact b2, ?_, ?_, ?_, rtA a2 (Nat.le_refl _) (Nat.le_refl _) (fun j h1 h2 => upd_ne (by omega)) b6, ptA a3 (Nat.le_refl _) (fun j h1 h2 => upd_ne (by omega)) b7, clA (Nat.le_refl _) (fun j h1 h2 => upd_ne (by omega)) b8⟩
    · rw [upd_ne (by omega), cntA (fun j h1 h2 => upd_ne (by omega)) 10 (by omega)]; exact b3
    · intro s' hs'
      by_cases hx : s' = s
      · subst hx
        rw [upd_eq]
        rcases (show b = 0 ∨ b = 1 by omega) with e | e <;> rw [e]
        · exact Or.inl rfl
        · exact Or.inr rfl
      · rw [upd_ne (by omega)]; exact b4 s' hs'
    · intro s hs; rw [upd_ne (by omega)]; exact b5 s hs
  · rw [eV]
    obtain ⟨⟨a1, a2, a3, a4, a5, a6⟩, -, b1, b2, b3, b4, b5⟩ := hC
    refine ⟨⟨?_, ?_, ?_, ?_, ?_, ?_⟩, ⟨M, m1, ?_, ?_⟩, ?_, ?_, cRA hV.1.2.1 (fun c i h1 h2 => ?_) (fun j h1 h2 => upd_ne (by omega)) b3, cPA hV.1.2.2.1 (fun c i h1 h2 => ?_) (fun j h1 h2 => upd_ne (by omega)) b4, cCA (fun c i h1 h2 => ?_) (fun j h1 h2 => upd_ne (by omega)) b5⟩
    · rw [eN, if_neg (by omega), upd_ne (by omega)]; exact a1
    · rw [eN, if_neg (by omega), upd_ne (by omega)]; exact a2
    · rw [eN, if_neg (by omega), upd_ne (by omega)]; exact a3
    · rw [eN, if_neg (by omega), upd_ne (by omega)]; exact a4
    · rw [eN, if_neg (by omega), upd_ne (by omega)]; exact a5
    · rw [eN, if_neg (by omega), upd_ne (by omega)]; exact a6
    · rw [eN, if_pos (by omega)]
    · intro j hj
      rw [m3 L l2 l1 j hj]
      by_cases hjs : j = s
      · subst hjs
        rw [if_pos rfl, upd_eq]
        rcases (show b = 0 ∨ b = 1 by omega) with e | e <;> subst e
        · have : ¬ (nI 0 = nI 1) := by decide
          simp [this]
        · simp [hs]
      · rw [if_neg hjs, upd_ne (by omega)]
        exact l3 j hj
    · intro s hs; rw [eN, if_neg (by omega), upd_ne (by omega)]; exact b1 s hs
    · intro s hs; rw [eN, if_neg (by omega), upd_ne (by omega)]; exact b2 s hs
    · rw [eN, if_neg (by omega)]
    · rw [eN, if_neg (by omega)]
    · rw [eN, if_neg (by omega)]
/-- a command that was read, in both buffers -/
def Cmd (c : Nat) (wc wm : Wd) : Prop :=
  (wc 7 5 c = nI 114 ∧ wm 8 15 c = nI 114 ∧ ∃ s o n k l : Nat, s ≤ 9 ∧ o ≤ 9 ∧ n ≤ 999999999 ∧ k ≤ 9999 ∧ l ≤ 9999 ∧ wc 7 6 c = nI s ∧ wc 7 7 c = nI o ∧ wc 7 8 c = nI n ∧ wc 7 9 c = nI k ∧ wc 7 10 c = nI l ∧ wm 8 16 (5 * c) = nI s ∧ wm 8 16 (5 * c + 1) = nI o ∧ wm 8 16 (5 * c + 2) = nI n ∧ wm 8 16 (5 * c + 3) = nI k ∧ wm 8 16 (5 * c + 4) = nI l) ∨
  (wc 7 5 c = nI 112 ∧ wm 8 15 c = nI 112 ∧ ∃ n s : Nat, 1 ≤ n ∧ n ≤ 999999999 ∧ s ≤ 9 ∧ wc 7 8 c = nI n ∧ wc 7 6 c = nI s ∧ wm 8 16 (5 * c) = nI n ∧ wm 8 16 (5 * c + 1) = nI s) ∨
  (wc 7 5 c = nI 108 ∧ wm 8 15 c = nI 108 ∧ ∃ s : Nat, s ≤ 9 ∧ wc 7 6 c = nI s ∧ wm 8 16 (5 * c) = nI s)
theorem num_spec {wm : Wd} {i k : Nat} (hi : i < 27) (hk : k < 5) : f_X10_num wm (nI i) (nI k) = some (wm 8 16 (5 * i + k), wm) := by
  rw [f_X10_num, show (5 * nI i + nI k : Int32) = nI (5 * i + k) from by rw [lit, nI_mul, nI_add], if_pos (ibT (by omega) (by omega)), nI_clamp (by omega)]
theorem carry_both {t i C : Nat} {wc wm : Wd} (hN : NR t (wc 0) (wm 8 1)) (hi : i < C) (hC27 : C ≤ 27) (eC : wc 7 3 8 = nI C) (hcmd : Cmd i wc wm) : ∃ ok wc' wm', (ok = nI 0 ∨ ok = nI 1) ∧ f_X7_carryOut 0 wc (nI i) = some (ok, wc') ∧ f_X10_does wm (nI i) = some (ok, wm') ∧ (∀ g c, g ≠ 0 → wc' g c = wc g c) ∧ (∀ g c, ¬ (g = 8 ∧ c = 1) → wm' g c = wm g c) ∧ (ok = nI 1 → NR t (wc' 0) (wm' 8 1)) := by
  obtain ⟨S, R, P, hV, hC⟩ := hN
  have hS := hV.1.1
  have hR := hV.1.2.1
  have hP := hV.1.2.2.1
  have eS8 : wm 8 1 0 = nI S := hV.1.2.2.2.1
  have eS : wc 0 0 5 = nI S := hC.1.1.trans eS8
  have eR8 : wm 8 1 1 = nI R := hV.1.2.2.2.2.1
  have eR : wc 0 3 6 = nI R := hC.1.2.1.trans eR8
  have eP8 : wm 8 1 2 = nI P := hV.1.2.2.2.2.2
  have ib27 : ib (nI i) 27 = true := ibT (by omega) (by omega)
  have ib80 : ib (nI i) 80 = true := ibT (by omega) (by omega)
  have n01 : ¬ nI 0 = nI 1 := by decide
  have hcar : f_X7_carryOut 0 wc (nI i) = if wc 7 5 i = 114 then (f_X7_putRoute 0 wc (nI i)).bind fun q3 => if zb q3.1 = true then some (q3.1, q3.2) else none else if wc 7 5 i = 112 then (f_X7_putPort 0 wc (nI i)).bind fun q2 => if zb q2.1 = true then some (q2.1, q2.2) else none else (f_X7_letLookUp 0 wc (nI i)).bind fun q1 => if zb q1.1 = true then some (q1.1, q1.2) else none := by
    rw [f_X7_carryOut, if_neg (nI_pos (by omega)), eC, if_neg (by rw [nI_leI (by omega) (by omega)]; omega), if_pos (by rw [lit, nI_ltI (by omega) (by omega)]; omega), if_pos ib27, if_pos ib27, nI_clamp (by omega)]
  have num0 : f_X10_num wm (nI i) 0 = some (wm 8 16 (5 * i), wm) := num_spec (k := 0) (by omega) (by omega)
  have num1 : f_X10_num wm (nI i) 1 = some (wm 8 16 (5 * i + 1), wm) := num_spec (k := 1) (by omega) (by omega)
  have num2 : f_X10_num wm (nI i) 2 = some (wm 8 16 (5 * i + 2), wm) := num_spec (k := 2) (by omega) (by omega)
  have num3 : f_X10_num wm (nI i) 3 = some (wm 8 16 (5 * i + 3), wm) := num_spec (k := 3) (by omega) (by omega)
  have num4 : f_X10_num wm (nI i) 4 = some (wm 8 16 (5 * i + 4), wm) := num_spec (k := 4) (by omega) (by omega)
  have id0 : ∀ g c, g ≠ 0 → wc g c = wc g c := fun _ _ _ => rfl
  have id8 : ∀ g c, ¬ (g = 8 ∧ c = 1) → wm g c = wm g c := fun _ _ _ => rfl
  rcases hcmd with ⟨k1, k2, s, o, n, k, l, y1, y2, y3, y4, y5, z1, z2, z3, z4, z5, x1, x2, x3, x4, x5⟩ | ⟨k1, k2, n, s, y1, y2, y3, z1, z2, x1, x2⟩ | ⟨k1, k2, s, y1, z1, x1⟩
  · rw [k1, if_pos (by rfl)] at hcar
    have hdo : f_X10_does wm (nI i) = (f_X10_isRoute wm (nI s) (nI n) (nI o) (nI k) (nI l)).bind fun q6 => if q6.1 = 0 then j_X10_does_177 q6.2 (nI i) (nI s) (nI o) 0 else if 40 ≤ (q6.2 8 1 1) then j_X10_does_177 q6.2 (nI i) (nI s) (nI o) 0 else j_X10_does_177 q6.2 (nI i) (nI s) (nI o) 1 := by
      rw [f_X10_does, num0, Option.bind_some]
      dsimp only
      rw [num1, Option.bind_some]
      dsimp only
      rw [if_pos ib80, nI_clamp (by omega), if_neg (by rw [k2]; decide), if_pos ib80, if_neg (by rw [k2]; decide), num2, Option.bind_some]
      dsimp only
      rw [num3, Option.bind_some]
      dsimp only
      rw [num4, Option.bind_some]
      dsimp only
      rw [x1, x2, x3, x4, x5]
      rfl
    have hpu : f_X7_putRoute 0 wc (nI i) = if p_X4_routeRefusal 0 wc (nI s) (nI n) (nI o) (nI k) (nI l) = 0 then (f_X6_put 0 wc (nI s) (nI n) (nI o) (nI k) (nI l)).bind fun q3 => some (1, q3.2) else some (0, wc) := by
      rw [f_X7_putRoute, if_pos ib27, leti, if_pos ib27, leti, if_pos ib27, if_pos ib27, if_pos ib27, if_pos ib27, if_pos ib27, if_pos ib27, nI_clamp (by omega), z1, z2, z3, z4, z5]
    have j0 : ∀ w, j_X10_does_177 w (nI i) (nI s) (nI o) 0 = some (nI 0, w) := fun w => by rw [j_X10_does_177, if_pos rfl, if_pos (by decide)]; rfl
    rcases rt_chk (wm := wm) hV hC rfl (nI s) (nI n) (nI o) (nI k) (nI l) with ⟨s', p', x', c', l', g1, g2, g3, g4, g5, e1, e2, e3, e4, e5, g6, g7⟩ | ⟨g1, g2⟩
    · by_cases hR4 : R < 40
      · obtain ⟨wc', c1, c2, c3⟩ := put_spec (n := 0) (w := wc) (x1 := nI s) (x2 := nI n) (x3 := nI o) (x4 := nI k) (x5 := nI l) hR4 eR
        obtain ⟨w3, r1, r2, r3⟩ := routes_spec (w := wm) (x1 := nI s) (x2 := nI n) (x3 := nI o) (x4 := nI k) (x5 := nI l) hR4 eR8
        refine ⟨nI 1, wc', w3, Or.inr rfl, ?_, ?_, c2, r2, fun _ => ?_⟩
        · rw [hcar, hpu, g6, if_pos hR4, if_pos (by rfl), c1, Option.bind_some, Option.bind_some]
          dsimp only
          rw [if_pos (by decide)]; rfl
        · rw [hdo, g7, Option.bind_some]
          dsimp only
          rw [if_neg (by decide), if_neg (by rw [eR8, lit, nI_leI (by omega) (by omega)]; omega), j_X10_does_177, if_neg (by decide), num2, Option.bind_some]
          dsimp only
          rw [num3, Option.bind_some]
          dsimp only
          rw [num4, Option.bind_some]
          dsimp only
          rw [x3, x4, x5, r1, Option.bind_some]
          dsimp only
          rw [if_pos (by decide)]; rfl
        · rw [e1, e2, e3, e4, e5] at c3 r3
          exact put_NR hV hC hR4 g1 g2 g3 g4 g5 c3 r3
      · refine ⟨nI 0, wc, wm, Or.inl rfl, ?_, ?_, id0, id8, fun h => absurd h n01⟩
        · rw [hcar, hpu, g6, if_neg hR4, if_neg (by decide), Option.bind_some]
          dsimp only
          rw [if_pos (by decide)]; rfl
        · rw [hdo, g7, Option.bind_some]
          dsimp only
          rw [if_neg (by decide), if_pos (by rw [eR8, lit, nI_leI (by omega) (by omega)]; omega), j0]
    · refine ⟨nI 0, wc, wm, Or.inl rfl, ?_, ?_, id0, id8, fun h => absurd h n01⟩
      · rw [hcar, hpu, g1, if_neg (by decide), Option.bind_some]
        dsimp only
        rw [if_pos (by decide)]; rfl
      · rw [hdo, g2, Option.bind_some]
        dsimp only
        rw [if_pos (by decide), j0]
  · rw [k1, if_neg (by decide), if_pos (by rfl)] at hcar
    have hdo : f_X10_does wm (nI i) = (f_X10_isSwitch wm (nI s)).bind fun q11 => if q11.1 = 0 then j_X10_does_111 q11.2 (nI n) (nI s) 0 else if (q11.2 8 1 2) < 30 then j_X10_does_111 q11.2 (nI n) (nI s) 1 else (f_X10_portOf q11.2 (nI n)).bind fun q13 => if q13.1 < 0 then j_X10_does_111 q13.2 (nI n) (nI s) 0 else j_X10_does_111 q13.2 (nI n) (nI s) 1 := by
      rw [f_X10_does, num0, Option.bind_some]
      dsimp only
      rw [num1, Option.bind_some]
      dsimp only
      rw [if_pos ib80, nI_clamp (by omega), if_neg (by rw [k2]; decide), if_pos ib80, if_pos (by rw [k2]; rfl), x1, x2]
      rfl
    have hpu : f_X7_putPort 0 wc (nI i) = (f_X4_portRefusal 0 wc (nI n) (nI s)).bind fun q1 => if q1.1 = 0 then (f_X5_put 0 q1.2 (q1.2 7 8 i) (q1.2 7 6 i)).bind fun q2 => some (1, q2.2) else some (0, q1.2) := by
      rw [f_X7_putPort, if_pos ib27, if_pos ib27, nI_clamp (by omega), z1, z2]
      simp only [if_pos ib27]
    have j0 : ∀ w, j_X10_does_111 w (nI n) (nI s) 0 = some (nI 0, w) := fun w => by rw [j_X10_does_111, if_pos rfl, if_pos (by decide)]; rfl
    by_cases hs : s < S
    · have href := portRef2 hV hC ⟨y1, y2⟩ hs
      have eq11 : ∀ j, j < P → wc 0 11 j = wm 8 1 (350 + 2 * j) := fun j hj => (hC.2.2.2.2.2.1 j hj).1
      by_cases hok : P < 30 ∨ ∃ k, k < P ∧ wc 0 11 k = nI n
      · obtain ⟨r, wc', w3, d1, d2, d3, d4, d5⟩ := port_bth (w := wc) (wm := wm) hV hC ⟨y1, y2⟩ hs hok rfl
        have j1 : j_X10_does_111 wm (nI n) (nI s) 1 = some (nI 1, w3) := by
          rw [j_X10_does_111, if_neg (by decide), d3, Option.bind_some]
          dsimp only
          rw [if_pos (by decide)]; rfl
        refine ⟨nI 1, wc', w3, Or.inr rfl, ?_, ?_, d2, d4, fun _ => d5⟩
        · rw [hcar, hpu, href, if_pos hok, Option.bind_some]
          dsimp only
          rw [if_pos (by rfl), z1, z2, d1, Option.bind_some, Option.bind_some]
          dsimp only
          rw [if_pos (by decide)]; rfl
        · rw [hdo, isSw_T hS eS8 hs, Option.bind_some]
          dsimp only
          rw [if_neg (by decide)]
          by_cases h30 : P < 30
          · rw [if_pos (by rw [eP8, lit, nI_ltI (by omega) (by omega)]; exact h30), j1]
          · rw [if_neg (by rw [eP8, lit, nI_ltI (by omega) (by omega)]; exact h30)]
            rcases hok with hx | ⟨k0, hk0, e0⟩
            · exact absurd hx h30
            · rcases first (p := fun j => wc 0 11 j = nI n) P with ⟨k, hk, he, hj⟩ | hj
              · rw [por_T (w := wm) (x := nI n) hP eP8 hk (by rw [← eq11 k hk]; exact he) (fun j hjk => by rw [← eq11 j (by omega)]; exact hj j hjk), Option.bind_some]
                dsimp only
                rw [if_neg (nI_pos (by omega)), j1]
              · exact absurd e0 (hj k0 hk0)
      · refine ⟨nI 0, wc, wm, Or.inl rfl, ?_, ?_, id0, id8, fun h => absurd h n01⟩
        · rw [hcar, hpu, href, if_neg hok, Option.bind_some]
          dsimp only
          rw [if_neg (by decide), Option.bind_some]
          dsimp only
          rw [if_pos (by decide)]; rfl
        · rw [hdo, isSw_T hS eS8 hs, Option.bind_some]
          dsimp only
          rw [if_neg (by decide), if_neg (by rw [eP8, lit, nI_ltI (by omega) (by omega)]; exact fun h => hok (Or.inl h)), por_F (w := wm) (x := nI n) hP eP8 (fun j hj => by rw [← eq11 j hj]; exact fun e => hok (Or.inr ⟨j, hj, e⟩)), Option.bind_some]
          dsimp only
          rw [if_pos (by decide), j0]
    · have hns : ∀ k, k < S → nI s ≠ nI k := fun k hk e => by rw [nI_eq (by omega) (by omega)] at e; omega
      refine ⟨nI 0, wc, wm, Or.inl rfl, ?_, ?_, id0, id8, fun h => absurd h n01⟩
      · rw [hcar, hpu, f_X4_portRefusal, hasSw_F hS eS hns, if_pos (by rfl), Option.bind_some]
        dsimp only
        rw [if_neg (by decide), Option.bind_some]
        dsimp only
        rw [if_pos (by decide)]; rfl
      · rw [hdo, isSw_F hS eS8 hns, Option.bind_some]
        dsimp only
        rw [if_pos (by decide), j0]
  · rw [k1, if_neg (by decide), if_neg (by decide)] at hcar
    have hm8 : (10 + (nI s - nI s / 8 * 8) : Int32) = nI (10 + s % 8) := by rw [show (8 : Int32) = nI 8 from rfl, nI_rem (by omega) (by omega) (by omega)]; exact nI_add 10 (s % 8)
    have hs8 : s % 8 < 8 := Nat.mod_lt _ (by omega)
    have ib10 : ib (nI (10 + s % 8)) 640 = true := ibT (by omega) (by omega)
    have hdo : f_X10_does wm (nI i) = (f_X10_isSwitch wm (nI s)).bind fun q14 => if q14.1 = 0 then (if zb q14.1 = true then some (q14.1, wup q14.2 8 1 (10 + s % 8) (q14.2 8 1 (10 + s % 8))) else none) else (if zb q14.1 = true then some (q14.1, wup q14.2 8 1 (10 + s % 8) 1) else none) := by
      rw [f_X10_does, num0, Option.bind_some]
      dsimp only
      rw [num1, Option.bind_some]
      dsimp only
      rw [if_pos ib80, nI_clamp (by omega), if_pos (by rw [k2]; rfl), x1, hm8]
      simp only [if_pos ib10, nI_clamp (show 10 + s % 8 < 2 ^ 31 by omega), letw]
    have hlo : f_X7_letLookUp 0 wc (nI i) = if p_X4_hasSwitch 0 wc (nI s) = 0 then some (0, wc) else (f_X4_changeLookup 0 wc (nI s) 1).bind fun q1 => some (1, q1.2) := by
      rw [f_X7_letLookUp, if_pos ib27, if_pos ib27, nI_clamp (by omega), z1]
    by_cases hs : s < S
    · obtain ⟨L, l1, l2, l3⟩ := id hC.2.1
      have hmod : s % 8 = s := Nat.mod_eq_of_lt (by omega)
      refine ⟨nI 1, wup wc 0 0 6 (nI (L ||| 2 ^ s)), wup wm 8 1 (10 + s) (nI 1), Or.inr rfl, ?_, ?_, fun g c h => by rw [wup_row, if_neg (by omega)], fun g c h => by rw [wup_row, if_neg h], fun _ => ?_⟩
      · rw [hcar, hlo, hasSw_T hS eS hs, if_neg (by decide), f_X4_changeLookup, hasSw_T hS eS hs, if_neg (by decide), if_neg (by decide), l2, or_nI L l1 s (by omega), letw, Option.bind_some, Option.bind_some]
        dsimp only
        rw [if_pos (by decide)]; rfl
      · rw [hdo, isSw_T hS eS8 hs, Option.bind_some]
        dsimp only
        rw [if_neg (by decide), if_pos (by decide), hmod]; rfl
      · refine look_NR (s := s) (M := L ||| 2 ^ s) (b := 1) hV hC hs (or_lt L l1 s (by omega)) (by omega) (fun L' e hl' j hj => ?_) (fun c i => ?_) ?_
        · have : L' = L := by
            rw [l2, nI_eq (by omega) (by omega)] at e
            exact e.symm
          rw [this, tb_or L l1 s (by omega) j hj]
          by_cases hjs : j = s <;> simp [hjs]
        · rw [wup_at]; simp
        · rw [wup_row, if_pos ⟨rfl, rfl⟩]
    · have hns : ∀ k, k < S → nI s ≠ nI k := fun k hk e => by rw [nI_eq (by omega) (by omega)] at e; omega
      refine ⟨nI 0, wc, wm, Or.inl rfl, ?_, ?_, id0, id8, fun h => absurd h n01⟩
      · rw [hcar, hlo, hasSw_F hS eS hns, if_pos (by rfl), Option.bind_some]
        dsimp only
        rw [if_pos (by decide)]; rfl
      · rw [hdo, isSw_F hS eS8 hns, Option.bind_some]
        dsimp only
        rw [if_pos (by decide), if_pos (by decide), wup_self]
