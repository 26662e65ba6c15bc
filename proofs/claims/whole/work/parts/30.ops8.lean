/-- what portRefusal says -/
theorem portRef_spec {t S R P : Nat} {w : Wd} {n q : Nat} (hV : Vd t (w 8 1) S R P) (hC : Cp (w 0) (w 8 1) S R P) (hn : 1 ≤ n ∧ n ≤ 999999999) (hq : q < S) : f_X4_portRefusal 0 w (nI n) (nI q) = some ((if P < 30 ∨ ∃ k, k < P ∧ w 0 11 k = nI n then nI 0 else -nI 3), w) := by
  have hS := hV.1.1
  have eS : w 0 0 5 = nI S := hC.1.1.trans hV.1.2.2.2.1
  have hP := hV.1.2.2.1
  have eP : w 0 10 2 = nI P := hC.1.2.2.1.trans hV.1.2.2.2.2.2
  have hn1 := (isNum_T (w := w) hn.1 hn.2).1
  rcases first (p := fun j => w 0 11 j = nI n) P with ⟨k, hk, he, hj⟩ | hj
  · rw [if_pos (Or.inr ⟨k, hk, he⟩), f_X4_portRefusal]
    obtain ⟨n', q', z1, z2, z3, z4, z5⟩ := hV.2.2.2.2.2.2.2.1 k hk
    have e12 : w 0 12 k = nI q' := (hC.2.2.2.2.2.1 k hk).2.trans z5
    simp (disch := omega) only [lit, if_true, if_false, nI_leI, nI_ltI, nI_eq, nI_neg, nI_neg', nI_negE, ng_lt, ng_le, ng_nlt, ng_nle, ib_nI, nI_clamp, nI_add, nI_mul, nI_sub, nI_nn, if_pos, if_neg, decide_eq_true_eq, letw, leti, letl, Option.bind_some, nI_rem, hasSw_T hS eS hq, hn1, swOf_T hP eP hk he hj, e12, j_X4_portRefusal_35]
  · have hno : ¬ ∃ k, k < P ∧ w 0 11 k = nI n := fun ⟨k, hk, e⟩ => hj k hk e
    by_cases h30 : P < 30
    · rw [if_pos (Or.inl h30), f_X4_portRefusal]
      simp (disch := omega) only [lit, if_true, if_false, nI_leI, nI_ltI, nI_eq, nI_neg, nI_neg', nI_negE, ng_lt, ng_le, ng_nlt, ng_nle, ib_nI, nI_clamp, nI_add, nI_mul, nI_sub, nI_nn, if_pos, if_neg, decide_eq_true_eq, letw, leti, letl, Option.bind_some, nI_rem, hasSw_T hS eS hq, hn1, swOf_F hP eP hj, j_X4_portRefusal_35, p_X5_size, eP]
    · have hno2 : ¬ (P < 30 ∨ ∃ k, k < P ∧ w 0 11 k = nI n) := fun z => Or.elim z h30 hno
      rw [if_neg hno2, f_X4_portRefusal]
      simp (disch := omega) only [lit, if_true, if_false, nI_leI, nI_ltI, nI_eq, nI_neg, nI_neg', nI_negE, ng_lt, ng_le, ng_nlt, ng_nle, ib_nI, nI_clamp, nI_add, nI_mul, nI_sub, nI_nn, if_pos, if_neg, decide_eq_true_eq, letw, leti, letl, Option.bind_some, nI_rem, hasSw_T hS eS hq, hn1, swOf_F hP eP hj, j_X4_portRefusal_35, p_X5_size, eP]
theorem op_port {t : Nat} {w : Wd} (H : Inv t w) (x1 x2 : Int32) : ∃ r w1 w2, f_X9_port w x1 x2 = some (r, w1) ∧ f_X10_port w1 x1 x2 = some (r, w2) ∧ Inv t w2 := by
  obtain ⟨S, R, P, hV, hC⟩ := H.now
  have hS := hV.1.1
  have eS8 : w 8 1 0 = nI S := hV.1.2.2.2.1
  have eS : w 0 0 5 = nI S := hC.1.1.trans eS8
  have hP := hV.1.2.2.1
  have eP8 : w 8 1 2 = nI P := hV.1.2.2.2.2.2
  have eq11 : ∀ j, j < P → w 0 11 j = w 8 1 (350 + 2 * j) := fun j hj => (hC.2.2.2.2.2.1 j hj).1
  rcases rl x2 S with ⟨q, hq, rfl⟩ | h
  · rcases rg x1 1 999999999 with ⟨n, h1, h2, rfl⟩ | h
    · have href := portRef_spec hV hC ⟨h1, h2⟩ hq
      by_cases hok : P < 30 ∨ ∃ k, k < P ∧ w 0 11 k = nI n
      · obtain ⟨w1, p1, p2, p3, p4⟩ := act_push H
        have hV1 : Vd t (w1 8 1) S R P := by rw [p4]; exact hV
        have hC1 : Cp (w1 0) (w1 8 1) S R P := by rw [p3, p4]; exact hC
        rw [if_pos hok] at href
        -- the router's part, then the keeping, then the model's part
        obtain ⟨r0, wc, -, c1, c2, -⟩ := port_both (w := w1) (wm := w1) hV1 hC1 ⟨h1, h2⟩ hq (by rw [p3]; exact hok) rfl
        have hc8 : wc 8 = w 8 := by funext c; rw [c2 8 c (by omega), p4]
        obtain ⟨w2, k1, k2, k3, k4⟩ := act_keep (wc := wc) H hc8
        obtain ⟨r, wc', w3, d1, d2, d3, d4, d5⟩ := port_both (w := w1) (wm := w2) hV1 hC1 ⟨h1, h2⟩ hq (by rw [p3]; exact hok) (by rw [k3, p4])
        have hcc : (r, wc') = (r0, wc) := Option.some.inj (d1.symm.trans c1)
        have hcr : r = r0 := congrArg Prod.fst hcc
        have hcw : wc' = wc := congrArg Prod.snd hcc
        rw [hcr] at d3
        rw [hcw] at d5
        refine ⟨r0, wc, w3, ?_, ?_, ?_⟩
        · rw [f_X9_port, href]
          simp (disch := omega) only [lit, if_true, if_false, nI_leI, nI_ltI, nI_eq, nI_neg, nI_neg', nI_negE, ng_lt, ng_le, ng_nlt, ng_nle, ib_nI, nI_clamp, nI_add, nI_mul, nI_sub, nI_nn, if_pos, if_neg, decide_eq_true_eq, letw, leti, letl, Option.bind_some, nI_rem, p1, c1]
        · have e1 : wc 8 1 0 = nI S := by rw [hc8]; exact eS8
          have e2 : wc 8 1 2 = nI P := by rw [hc8]; exact eP8
          have hnum := (isNum_T (w := wc) h1 h2).2
          rw [f_X10_port]
          by_cases h30 : P = 30
          · subst h30
            rcases hok with hx | ⟨k0, hk0, e0⟩
            · omega
            · rcases first (p := fun j => w 0 11 j = nI n) 30 with ⟨k, hk, he, hj⟩ | hj
              · have hpo := por_T (w := wc) (x := nI n) hP e2 hk (by rw [hc8, ← eq11 k hk]; exact he) (fun j hjk => by rw [hc8, ← eq11 j (by omega)]; exact hj j hjk)
                simp (disch := omega) only [lit, if_true, if_false, nI_leI, nI_ltI, nI_eq, nI_neg, nI_neg', nI_negE, ng_lt, ng_le, ng_nlt, ng_nle, ib_nI, nI_clamp, nI_add, nI_mul, nI_sub, nI_nn, if_pos, if_neg, decide_eq_true_eq, letw, leti, letl, Option.bind_some, nI_rem, isSw_T hS e1 hq, hnum, e2, hpo, j_X10_port_39, k1, d3]
              · exact absurd e0 (hj k0 hk0)
          · simp (disch := omega) only [lit, if_true, if_false, nI_leI, nI_ltI, nI_eq, nI_neg, nI_neg', nI_negE, ng_lt, ng_le, ng_nlt, ng_nle, ib_nI, nI_clamp, nI_add, nI_mul, nI_sub, nI_nn, if_pos, if_neg, decide_eq_true_eq, letw, leti, letl, Option.bind_some, nI_rem, isSw_T hS e1 hq, hnum, e2, j_X10_port_39, k1, d3]
        · refine act_inv H p2 c2 k2 d4 (Nat.le_refl t) H.1 ?_
          have : w3 0 = wc 0 := by funext c; rw [d4 0 c (by omega), k4 0 (by omega)]
          rw [this]
          exact d5
      · rw [if_neg hok] at href
        have h30 : P = 30 := by
          have : ¬ P < 30 := fun z => hok (Or.inl z)
          omega
        subst h30
        have hj : ∀ j, j < 30 → w 8 1 (350 + 2 * j) ≠ nI n := fun j hj e => hok (Or.inr ⟨j, hj, by rw [eq11 j hj]; exact e⟩)
        refine ⟨-3, w, w, ?_, ?_, H⟩
        · rw [f_X9_port, href]
          simp (disch := omega) only [lit, if_true, if_false, nI_leI, nI_ltI, nI_eq, nI_neg, nI_neg', nI_negE, ng_lt, ng_le, ng_nlt, ng_nle, ib_nI, nI_clamp, nI_add, nI_mul, nI_sub, nI_nn, if_pos, if_neg, decide_eq_true_eq, letw, leti, letl, Option.bind_some, nI_rem]
        · rw [f_X10_port]
          simp (disch := omega) only [lit, if_true, if_false, nI_leI, nI_ltI, nI_eq, nI_neg, nI_neg', nI_negE, ng_lt, ng_le, ng_nlt, ng_nle, ib_nI, nI_clamp, nI_add, nI_mul, nI_sub, nI_nn, if_pos, if_neg, decide_eq_true_eq, letw, leti, letl, Option.bind_some, nI_rem, isSw_T hS eS8 hq, (isNum_T (w := w) h1 h2).2, eP8, por_F hP eP8 hj]
    · refine ⟨-1, w, w, ?_, ?_, H⟩
      · rw [f_X9_port, f_X4_portRefusal]
        simp (disch := omega) only [lit, if_true, if_false, nI_leI, nI_ltI, nI_eq, nI_neg, nI_neg', nI_negE, ng_lt, ng_le, ng_nlt, ng_nle, ib_nI, nI_clamp, nI_add, nI_mul, nI_sub, nI_nn, if_pos, if_neg, decide_eq_true_eq, letw, leti, letl, Option.bind_some, nI_rem, hasSw_T hS eS hq, (isNum_F (w := w) h).1]
      · rw [f_X10_port]
        simp (disch := omega) only [lit, if_true, if_false, nI_leI, nI_ltI, nI_eq, nI_neg, nI_neg', nI_negE, ng_lt, ng_le, ng_nlt, ng_nle, ib_nI, nI_clamp, nI_add, nI_mul, nI_sub, nI_nn, if_pos, if_neg, decide_eq_true_eq, letw, leti, letl, Option.bind_some, nI_rem, isSw_T hS eS8 hq, (isNum_F (w := w) h).2]
  · refine ⟨-1, w, w, ?_, ?_, H⟩
    · rw [f_X9_port, f_X4_portRefusal]
      simp (disch := omega) only [lit, if_true, if_false, nI_leI, nI_ltI, nI_eq, nI_neg, nI_neg', nI_negE, ng_lt, ng_le, ng_nlt, ng_nle, ib_nI, nI_clamp, nI_add, nI_mul, nI_sub, nI_nn, if_pos, if_neg, decide_eq_true_eq, letw, leti, letl, Option.bind_some, nI_rem, hasSw_F hS eS h]
    · rw [f_X10_port]
      simp (disch := omega) only [lit, if_true, if_false, nI_leI, nI_ltI, nI_eq, nI_neg, nI_neg', nI_negE, ng_lt, ng_le, ng_nlt, ng_nle, ib_nI, nI_clamp, nI_add, nI_mul, nI_sub, nI_nn, if_pos, if_neg, decide_eq_true_eq, letw, leti, letl, Option.bind_some, nI_rem, isSw_F hS eS8 h]
