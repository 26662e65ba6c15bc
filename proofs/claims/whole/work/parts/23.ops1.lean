theorem zb_0 : zb (nI 0) = true := rfl
theorem zb_1 : zb (nI 1) = true := rfl
/-! what the checks say -/
theorem in_same (w : Wd) (x a b : Int32) : p_X9_inRange w x a b = p_X10_in w x a b := rfl
theorem in_T {w : Wd} {a b k : Nat} (h1 : a ≤ k) (h2 : k ≤ b) (hb : b < 2 ^ 31) : p_X10_in w (nI k) (nI a) (nI b) = nI 1 := by
  unfold p_X10_in
  simp (disch := omega) only [lit, if_true, if_false, nI_leI, nI_ltI, nI_eq, nI_neg, nI_neg', nI_negE, ng_lt, ng_le, ng_nlt, ng_nle, ib_nI, nI_clamp, nI_add, nI_mul, nI_sub, nI_nn, if_pos, if_neg, decide_eq_true_eq, letw, leti, letl, Option.bind_some, nI_rem]
theorem in_F {w : Wd} {a b : Nat} {x : Int32} (hb : b < 2 ^ 31) (h : ∀ k, a ≤ k → k ≤ b → x ≠ nI k) (ha : a < 2 ^ 31) : p_X10_in w x (nI a) (nI b) = nI 0 := by
  unfold p_X10_in
  by_cases h1 : x < nI a
  · rw [if_pos h1]; rfl
  · rw [if_neg h1]
    by_cases h2 : nI b < x
    · rw [if_pos h2]; rfl
    · exfalso
      have h0 : ¬ x < 0 := by
        intro q
        apply h1
        rw [Int32.lt_iff_toInt_lt] at q ⊢
        rw [nI_toInt ha]
        simp at q
        omega
      obtain ⟨k, hk, rfl⟩ := nI_of h0
      rw [nI_ltI hk ha] at h1
      rw [nI_ltI hb hk] at h2
      exact h k (by omega) (by omega) rfl
/-- a number is one of a range, or is none of it -/
theorem rg (x : Int32) (a b : Nat) : (∃ k, a ≤ k ∧ k ≤ b ∧ x = nI k) ∨ (∀ k, a ≤ k → k ≤ b → x ≠ nI k) := by
  by_cases h : ∃ k, a ≤ k ∧ k ≤ b ∧ x = nI k
  · exact Or.inl h
  · exact Or.inr (fun k h1 h2 e => h ⟨k, h1, h2, e⟩)
theorem rl (x : Int32) (S : Nat) : (∃ k, k < S ∧ x = nI k) ∨ (∀ k, k < S → x ≠ nI k) := by
  by_cases h : ∃ k, k < S ∧ x = nI k
  · exact Or.inl h
  · exact Or.inr (fun k h1 e => h ⟨k, h1, e⟩)
theorem hasSw_T {n S k : Nat} {w : Wd} (hS : S ≤ 8) (hw : w n 0 5 = nI S) (hk : k < S) : p_X4_hasSwitch n w (nI k) = nI 1 := by
  unfold p_X4_hasSwitch
  rw [hw]
  simp (disch := omega) only [lit, if_true, if_false, nI_leI, nI_ltI, nI_eq, nI_neg, nI_neg', nI_negE, ng_lt, ng_le, ng_nlt, ng_nle, ib_nI, nI_clamp, nI_add, nI_mul, nI_sub, nI_nn, if_pos, if_neg, decide_eq_true_eq, letw, leti, letl, Option.bind_some, nI_rem]
theorem hasSw_F {n S : Nat} {x : Int32} {w : Wd} (hS : S ≤ 8) (hw : w n 0 5 = nI S) (h : ∀ k, k < S → x ≠ nI k) : p_X4_hasSwitch n w x = nI 0 := by
  unfold p_X4_hasSwitch
  by_cases h0 : x < 0
  · rw [if_pos h0]; rfl
  · obtain ⟨k, hk, rfl⟩ := nI_of h0
    have hkS : ¬ k < S := fun q => h k q rfl
    rw [hw]
    simp (disch := omega) only [lit, if_true, if_false, nI_leI, nI_ltI, nI_eq, nI_neg, nI_neg', nI_negE, ng_lt, ng_le, ng_nlt, ng_nle, ib_nI, nI_clamp, nI_add, nI_mul, nI_sub, nI_nn, if_pos, if_neg, decide_eq_true_eq, letw, leti, letl, Option.bind_some, nI_rem]
theorem isSw_T {S k : Nat} {w : Wd} (hS : S ≤ 8) (hw : w 8 1 0 = nI S) (hk : k < S) : f_X10_isSwitch w (nI k) = some (nI 1, w) := by
  have e : p_X10_in w (nI k) 0 (nI S - 1) = nI 1 := by
    rw [lit, lit, nI_sub (by omega)]
    exact in_T (by omega) (by omega) (by omega)
  rw [f_X10_isSwitch, if_pos (show ib 0 640 = true from rfl), show Int32.toNatClampNeg 0 = 0 from rfl, hw, e, if_pos zb_1]
theorem isSw_F {S : Nat} {x : Int32} {w : Wd} (hS : S ≤ 8) (hw : w 8 1 0 = nI S) (h : ∀ k, k < S → x ≠ nI k) : f_X10_isSwitch w x = some (nI 0, w) := by
  have e : p_X10_in w x 0 (nI S - 1) = nI 0 := by
    by_cases h0 : x < 0
    · unfold p_X10_in
      rw [if_pos h0]; rfl
    · obtain ⟨k, hk, rfl⟩ := nI_of h0
      have hkS : ¬ k < S := fun q => h k q rfl
      by_cases hz : S = 0
      · subst hz
        unfold p_X10_in
        rw [if_neg h0, if_pos]
        · rfl
        · rw [Int32.lt_iff_toInt_lt, nI_toInt hk]
          have : (nI 0 - 1 : Int32).toInt = -1 := by decide
          rw [this]
          omega
      · rw [lit, lit, nI_sub (by omega)]
        exact in_F (by omega) (fun j h1 h2 e => by
          have := (nI_eq hk (by omega)).mp e
          omega) (by omega)
  rw [f_X10_isSwitch, if_pos (show ib 0 640 = true from rfl), show Int32.toNatClampNeg 0 = 0 from rfl, hw, e, if_pos zb_0]
theorem isNum_T {k : Nat} {w : Wd} (h1 : 1 ≤ k) (h2 : k ≤ 999999999) : f_X9_isNumber w (nI k) = some (nI 1, w) ∧ f_X10_isNumber w (nI k) = some (nI 1, w) := by
  have e : p_X10_in w (nI k) 1 999999999 = nI 1 := in_T (a := 1) (b := 999999999) h1 h2 (by omega)
  constructor
  · rw [f_X9_isNumber, in_same, e, if_pos zb_1]
  · rw [f_X10_isNumber, e, if_pos zb_1]
theorem isNum_F {x : Int32} {w : Wd} (h : ∀ k, 1 ≤ k → k ≤ 999999999 → x ≠ nI k) : f_X9_isNumber w x = some (nI 0, w) ∧ f_X10_isNumber w x = some (nI 0, w) := by
  have e : p_X10_in w x 1 999999999 = nI 0 := in_F (a := 1) (b := 999999999) (by omega) h (by omega)
  constructor
  · rw [f_X9_isNumber, in_same, e, if_pos zb_0]
  · rw [f_X10_isNumber, e, if_pos zb_0]
theorem hasRt_T {n R k : Nat} {w : Wd} (hR : R ≤ 40) (hw : w n 3 6 = nI R) (hk : k < R) : p_X6_has n w (nI k) = nI 1 := by
  unfold p_X6_has
  rw [hw]
  simp (disch := omega) only [lit, if_true, if_false, nI_leI, nI_ltI, nI_eq, nI_neg, nI_neg', nI_negE, ng_lt, ng_le, ng_nlt, ng_nle, ib_nI, nI_clamp, nI_add, nI_mul, nI_sub, nI_nn, if_pos, if_neg, decide_eq_true_eq, letw, leti, letl, Option.bind_some, nI_rem]
theorem hasRt_F {n R : Nat} {x : Int32} {w : Wd} (hR : R ≤ 40) (hw : w n 3 6 = nI R) (h : ∀ k, k < R → x ≠ nI k) : p_X6_has n w x = nI 0 := by
  unfold p_X6_has
  by_cases h0 : x < 0
  · rw [if_pos h0]; rfl
  · obtain ⟨k, hk, rfl⟩ := nI_of h0
    have hkS : ¬ k < R := fun q => h k q rfl
    rw [hw]
    simp (disch := omega) only [lit, if_true, if_false, nI_leI, nI_ltI, nI_eq, nI_neg, nI_neg', nI_negE, ng_lt, ng_le, ng_nlt, ng_nle, ib_nI, nI_clamp, nI_add, nI_mul, nI_sub, nI_nn, if_pos, if_neg, decide_eq_true_eq, letw, leti, letl, Option.bind_some, nI_rem]
/-- an act: the router's part pushes and changes network 0; the model's part keeps and changes its row -/
theorem act_inv {t t' : Nat} {w w1 wc w2 w3 : Wd} (H : Inv t w) (hp : Pushed w w1 0) (hc : ∀ g c, g ≠ 0 → wc g c = w1 g c) (hk : Kept wc w2 1) (hm : ∀ g c, ¬ (g = 8 ∧ c = 1) → w3 g c = w2 g c) (ht : t ≤ t') (ht' : t' ≤ 600) (hnr : NR t' (w3 0) (w3 8 1)) : Inv t' w3 := by
  obtain ⟨-, hN, hH, hT, hA⟩ := H
  have f1 : ∀ g c, g ≠ 0 → (g < 2 ∨ 7 ≤ g) → ¬ (g = 7 ∧ c = 1) → wc g c = w g c := fun g c a b d => (hc g c a).trans (hp.1 g c b d)
  have f2 : ∀ g c, g ≠ 0 → (g < 2 ∨ 7 ≤ g) → ¬ (g = 7 ∧ c = 1) → ¬ (g = 8 ∧ (c = 3 ∨ c = 0)) → ¬ (g = 8 ∧ c = 1) → w3 g c = w g c := fun g c a b d e f => by rw [hm g c f, hk.1 g c e, f1 g c a b d]
  have f3 : ∀ i, i ≠ 3 → w3 8 0 i = w 8 0 i := fun i hi => by rw [hm 8 0 (by omega), hk.2.1 i hi, f1 8 0 (by omega) (by omega) (by omega)]
  refine ⟨ht', hnr, ?_, ?_, ?_⟩
  · have hH' : HR t w3 := by
      refine hist_push (c2 := 1) hH hN hp hk ?_ ?_ ?_ ?_ ?_ ?_ ?_ ?_
      · rw [f1 8 0 (by omega) (by omega) (by omega)]
      · exact f1 8 3 (by omega) (by omega) (by omega)
      · exact f1 8 1 (by omega) (by omega) (by omega)
      · intro g h2 h7
        funext c
        rw [hm g c (by omega), hk.1 g c (by omega), hc g c (by omega)]
      · rw [hm 7 1 (by omega), hk.1 7 1 (by omega), hc 7 1 (by omega)]
      · rw [hm 7 1 (by omega), hk.1 7 1 (by omega), hc 7 1 (by omega)]
      · rw [hm 8 0 (by omega)]
      · rw [hm 8 3 (by omega)]
    obtain ⟨F, C, a1, a2, a3, a4, a5, a6⟩ := hH'
    exact ⟨F, C, a1, a2, a3, a4, a5, fun i hi => (a6 i hi).mono ht⟩
  · exact hT.congr (by rw [f2 7 3 (by omega) (by omega) (by omega) (by omega) (by omega)]) (f3 19 (by omega)) (f2 7 4 (by omega) (by omega) (by omega) (by omega) (by omega)) (f2 8 14 (by omega) (by omega) (by omega) (by omega) (by omega))
  · exact hA.congr (by rw [f2 7 12 (by omega) (by omega) (by omega) (by omega) (by omega)]) (f3 15 (by omega)) (f2 7 13 (by omega) (by omega) (by omega) (by omega) (by omega)) (f2 7 14 (by omega) (by omega) (by omega) (by omega) (by omega)) (f2 8 11 (by omega) (by omega) (by omega) (by omega) (by omega)) (f2 8 12 (by omega) (by omega) (by omega) (by omega) (by omega))
/-- the two steps of an act, from the invariant: the push, then (behind any change of network 0) the model's keeping -/
theorem act_push {t : Nat} {w : Wd} (H : Inv t w) : ∃ w1, f_X2_push 0 w = some ((), w1) ∧ Pushed w w1 0 ∧ w1 0 = w 0 ∧ w1 8 = w 8 := by
  obtain ⟨F, C, hF, hC, h1, h2, h3, h4⟩ := H.2.2.1
  obtain ⟨w1, p1, p2⟩ := push_spec (n := 0) (by omega) hF hC h1 h2
  exact ⟨w1, p1, p2, funext fun c => p2.1 0 c (by omega) (by omega), funext fun c => p2.1 8 c (by omega) (by omega)⟩
theorem act_keep {t : Nat} {w wc : Wd} (H : Inv t w) (h8 : wc 8 = w 8) : ∃ w2, f_X10_keeps 1 wc = some ((), w2) ∧ Kept wc w2 1 ∧ w2 8 1 = w 8 1 ∧ (∀ g, g ≠ 8 → w2 g = wc g) := by
  obtain ⟨F, C, hF, hC, h1, h2, h3, h4⟩ := H.2.2.1
  obtain ⟨w2, k1, k2⟩ := kept_spec (c2 := 1) (w := wc) (by omega) (by omega) hC (by rw [h8]; exact h3)
  refine ⟨w2, k1, k2, ?_, fun g hg => funext fun c => k2.1 g c (by omega)⟩
  rw [k2.1 8 1 (by omega), h8]
theorem Inv.mono {t t' : Nat} {w : Wd} (H : Inv t w) (ht : t ≤ t') (ht' : t' ≤ 600) : Inv t' w := by
  obtain ⟨-, hN, ⟨F, C, a1, a2, a3, a4, a5, a6⟩, hT, hA⟩ := H
  exact ⟨ht', hN.mono ht, ⟨F, C, a1, a2, a3, a4, a5, fun i hi => (a6 i hi).mono ht⟩, hT, hA⟩
