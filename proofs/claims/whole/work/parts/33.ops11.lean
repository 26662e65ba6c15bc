theorem ibT {k n : Nat} (h : k < n) (hn : n < 2 ^ 31) : ib (nI k) n = true := by rw [ib_nI (by omega)]; exact decide_eq_true h
theorem of_spec {w : Wd} {r k : Nat} (hr : r < 40) (hk : k < 8) : f_X10_of w (nI r) (nI k) = some (w 8 1 (30 + 8 * r + k), w) := by
  rw [f_X10_of, lit, lit, nI_mul, nI_add, nI_add, if_pos (ibT (by omega) (by omega)), nI_clamp (by omega)]
theorem num_T {t S R P r k : Nat} {w : Wd} (hV : Vd t (w 8 1) S R P) (hC : Cp (w 0) (w 8 1) S R P) (hr : r < R) (hk : k < 8) : f_X6_numberOf 0 w (nI r) (nI k) = some (w 8 1 (30 + 8 * r + k), w) := by
  have hR := hV.1.2.1
  have eR : w 0 3 6 = nI R := hC.1.2.1.trans hV.1.2.2.2.2.1
  obtain ⟨q1, q2, q3, q4, q5, q6⟩ := hC.2.2.2.2.1 r hr
  have hi : ib (nI r) 40 = true := ibT (by omega) (by omega)
  have ht : (nI r).toNatClampNeg = r := nI_clamp (by omega)
  have hc0 := costOf_spec (n := 0) (w := w) (r := r) (b := 0) (by omega) (by omega)
  have hc1 := costOf_spec (n := 0) (w := w) (r := r) (b := 1) (by omega) (by omega)
  have hc2 := costOf_spec (n := 0) (w := w) (r := r) (b := 2) (by omega) (by omega)
  rw [f_X6_numberOf, hasRt_T hR eR hr, if_neg (by decide)]
  rcases (show k = 0 ∨ k = 1 ∨ k = 2 ∨ k = 3 ∨ k = 4 ∨ k = 5 ∨ k = 6 ∨ k = 7 by omega) with rfl | rfl | rfl | rfl | rfl | rfl | rfl | rfl
  · rw [if_pos (by decide), if_pos hi, ht, q1]; rfl
  · rw [if_neg (by decide), if_pos (by decide), if_pos hi, ht, q2]
  · rw [if_neg (by decide), if_neg (by decide), if_pos (by decide), if_pos hi, ht, q3]
  · rw [if_neg (by decide), if_neg (by decide), if_neg (by decide), if_pos (by decide), show (3 - 3 : Int32) = nI 0 from rfl, hc0, Option.bind_some, q4 0 (by omega)]
  · rw [if_neg (by decide), if_neg (by decide), if_neg (by decide), if_neg (by decide), if_pos (by decide), show (4 - 3 : Int32) = nI 1 from rfl, hc1, Option.bind_some, q4 1 (by omega)]
  · rw [if_neg (by decide), if_neg (by decide), if_neg (by decide), if_neg (by decide), if_neg (by decide), if_pos (by decide), show (5 - 3 : Int32) = nI 2 from rfl, hc2, Option.bind_some, q4 2 (by omega)]
  · rw [if_neg (by decide), if_neg (by decide), if_neg (by decide), if_neg (by decide), if_neg (by decide), if_neg (by decide), if_pos (by decide), if_pos hi, ht, q5]
  · rw [if_neg (by decide), if_neg (by decide), if_neg (by decide), if_neg (by decide), if_neg (by decide), if_neg (by decide), if_neg (by decide), if_pos (by decide), if_pos hi, ht, q6]
theorem inR_F {R : Nat} (hR : R ≤ 40) (w' : Wd) (x : Int32) (h : ∀ k, k < R → x ≠ nI k) : p_X10_in w' x (nI 0) (nI R - nI 1) = nI 0 := by
  by_cases h0 : x < 0
  · unfold p_X10_in
    rw [if_pos (show x < nI 0 from h0)]; rfl
  · obtain ⟨k, hk, rfl⟩ := nI_of h0
    have hkS : ¬ k < R := fun q => h k q rfl
    by_cases hz : R = 0
    · subst hz
      unfold p_X10_in
      rw [if_neg (show ¬ nI k < nI 0 from h0), if_pos]
      · rfl
      · rw [Int32.lt_iff_toInt_lt, nI_toInt hk]
        have : (nI 0 - nI 1 : Int32).toInt = -1 := by decide
        rw [this]
        omega
    · rw [nI_sub (by omega)]
      exact in_F (by omega) (fun j h1 h2 e => by
        have := (nI_eq hk (by omega)).mp e
        omega) (by omega)
theorem inR_T {R k : Nat} (hR : R ≤ 40) (w' : Wd) (hk : k < R) : p_X10_in w' (nI k) (nI 0) (nI R - nI 1) = nI 1 := by
  rw [nI_sub (by omega)]
  exact in_T (by omega) (by omega) (by omega)
theorem op_route {t : Nat} {w : Wd} (H : Inv t w) (x1 x2 : Int32) : ∃ r, f_X9_route w x1 x2 = some (r, w) ∧ f_X10_route w x1 x2 = some (r, w) := by
  obtain ⟨S, R, P, hV, hC⟩ := H.now
  have hR := hV.1.2.1
  have eR8 : w 8 1 1 = nI R := hV.1.2.2.2.2.1
  have eR : w 0 3 6 = nI R := hC.1.2.1.trans eR8
  rcases rl x1 R with ⟨r, hr, rfl⟩ | h
  · rcases rg x2 0 7 with ⟨k, h1, h2, rfl⟩ | h
    · refine ⟨w 8 1 (30 + 8 * r + k), ?_, ?_⟩
      · rw [f_X9_route, num_T hV hC hr (by omega), Option.bind_some]
      · rw [f_X10_route, if_pos (show ib 1 640 = true from rfl), show Int32.toNatClampNeg 1 = 1 from rfl, eR8, show (0 : Int32) = nI 0 from rfl, show (1 : Int32) = nI 1 from rfl, inR_T hR w hr, if_neg (by decide), show (7 : Int32) = nI 7 from rfl, in_T h1 h2 (by omega), if_neg (by decide), of_spec (by omega) (by omega), Option.bind_some]
    · have e : ∀ k : Nat, k ≤ 7 → ¬ x2 = nI k := fun k hk e => h k (by omega) hk e
      refine ⟨-1, ?_, ?_⟩
      · rw [f_X9_route, f_X6_numberOf, hasRt_T hR eR hr, if_neg (by decide), if_neg (show ¬ x2 = 0 from e 0 (by omega)), if_neg (show ¬ x2 = 1 from e 1 (by omega)), if_neg (show ¬ x2 = 2 from e 2 (by omega)), if_neg (show ¬ x2 = 3 from e 3 (by omega)), if_neg (show ¬ x2 = 4 from e 4 (by omega)), if_neg (show ¬ x2 = 5 from e 5 (by omega)), if_neg (show ¬ x2 = 6 from e 6 (by omega)), if_neg (show ¬ x2 = 7 from e 7 (by omega)), Option.bind_some]
      · rw [f_X10_route, if_pos (show ib 1 640 = true from rfl), show Int32.toNatClampNeg 1 = 1 from rfl, eR8, show (0 : Int32) = nI 0 from rfl, show (1 : Int32) = nI 1 from rfl, inR_T hR w hr, if_neg (by decide), show (7 : Int32) = nI 7 from rfl, in_F (by omega) h (by omega), if_pos (by decide)]
  · refine ⟨-1, ?_, ?_⟩
    · rw [f_X9_route, f_X6_numberOf, hasRt_F hR eR h, if_pos (by decide), Option.bind_some]
    · rw [f_X10_route, if_pos (show ib 1 640 = true from rfl), show Int32.toNatClampNeg 1 = 1 from rfl, eR8, show (0 : Int32) = nI 0 from rfl, show (1 : Int32) = nI 1 from rfl, inR_F hR w x1 h, if_pos (by decide)]
/-! calls: is there one at a place -/
theorem cHas_T {n p m : Nat} {w : Wd} (hp : p < 10) (hm : 1 ≤ m ∧ m < 2 ^ 31) (e : w n 14 p = nI m) : f_X0_has n w (nI p) = some (nI 1, w) := by
  rw [f_X0_has, if_neg (nI_pos (by omega)), if_neg (by rw [lit, nI_leI (by omega) (by omega)]; omega), if_pos (ibT hp (by omega)), nI_clamp (by omega), e, if_neg (by rw [lit, nI_eq (by omega) (by omega)]; omega)]
  rfl
theorem cHas_0 {n p : Nat} {w : Wd} (hp : p < 10) (e : w n 14 p = nI 0) : f_X0_has n w (nI p) = some (nI 0, w) := by
  rw [f_X0_has, if_neg (nI_pos (by omega)), if_neg (by rw [lit, nI_leI (by omega) (by omega)]; omega), if_pos (ibT hp (by omega)), nI_clamp (by omega), e, if_pos (by decide)]
  rfl
theorem cHas_F {n : Nat} {x : Int32} {w : Wd} (h : ∀ k, k < 10 → x ≠ nI k) : f_X0_has n w x = some (nI 0, w) := by
  rw [f_X0_has]
  by_cases h0 : x < 0
  · rw [if_pos h0]; rfl
  · obtain ⟨k, hk, rfl⟩ := nI_of h0
    have : ¬ k < 10 := fun q => h k q rfl
    rw [if_neg h0, if_pos (by rw [lit, nI_leI (by omega) (by omega)]; omega)]; rfl
theorem mHas_T {p : Nat} {w : Wd} (hp : p < 10) (e : w 8 1 (420 + 14 * p) = nI 1) : f_X10_isCall w (nI p) = some (nI 1, w) := by
  rw [f_X10_isCall, show (0 : Int32) = nI 0 from rfl, show (9 : Int32) = nI 9 from rfl, in_T (by omega) (by omega) (by omega), if_neg (by decide), lit, lit, nI_mul, nI_add, if_pos (ibT (by omega) (by omega)), nI_clamp (by omega), e, if_pos (by decide)]
  rfl
theorem mHas_0 {p : Nat} {w : Wd} (hp : p < 10) (e : w 8 1 (420 + 14 * p) = nI 0) : f_X10_isCall w (nI p) = some (nI 0, w) := by
  rw [f_X10_isCall, show (0 : Int32) = nI 0 from rfl, show (9 : Int32) = nI 9 from rfl, in_T (by omega) (by omega) (by omega), if_neg (by decide), lit, lit, nI_mul, nI_add, if_pos (ibT (by omega) (by omega)), nI_clamp (by omega), e, if_neg (by decide)]
theorem mHas_F {x : Int32} {w : Wd} (h : ∀ k, k < 10 → x ≠ nI k) : f_X10_isCall w x = some (nI 0, w) := by
  rw [f_X10_isCall, show (0 : Int32) = nI 0 from rfl, show (9 : Int32) = nI 9 from rfl, in_F (by omega) (fun k a b => h k (by omega)) (by omega), if_pos (by decide)]
/-- the two sides of a place -/
theorem place_cases {t S R P p : Nat} {w : Wd} (hV : Vd t (w 8 1) S R P) (hC : Cp (w 0) (w 8 1) S R P) (hp : p < 10) :
    (w 8 1 (420 + 14 * p) = nI 0 ∧ w 0 14 p = nI 0) ∨ (w 8 1 (420 + 14 * p) = nI 1 ∧ ∃ n st len : Nat, 1 ≤ n ∧ n ≤ 999999999 ∧ st ≤ 1000000 ∧ len ≤ 6 ∧ w 8 1 (420 + 14 * p + 1) = nI n ∧ w 8 1 (420 + 14 * p + 2) = nI st ∧ w 8 1 (420 + 14 * p + 3) = nI (bandN st) ∧ w 8 1 (420 + 14 * p + 4) = nI len ∧ (∀ k, k < len → ∃ r, r < R ∧ w 8 1 (420 + 14 * p + (5 + k)) = nI r ∧ w 0 17 (6 * p + k) = nI r) ∧ w 0 14 p = nI n ∧ w 0 15 p = nI st ∧ w 0 16 p = nI len) := by
  have h1 := hV.2.2.2.2.2.2.2.2 p hp
  have h2 := hC.2.2.2.2.2.2 p hp
  have n01 : ¬ nI 0 = nI 1 := by decide
  rcases h2 with ⟨z1, z2⟩ | ⟨z1, z2, z3, z4, z5⟩
  · exact Or.inl ⟨z1, z2⟩
  · rcases h1 with y | ⟨y, n, st, len, y1, y2, y3, y4, y5, y6, y7, y8, y9⟩
    · exact absurd (y.symm.trans z1) n01
    · refine Or.inr ⟨z1, n, st, len, y1, y2, y3, y4, y5, y6, y7, y8, fun k hk => ?_, z2.trans y5, z3.trans y6, z4.trans y8⟩
      obtain ⟨r, hr, e⟩ := y9 k hk
      refine ⟨r, hr, e, ?_⟩
      rw [z5 k (by omega) (by rw [show w 8 1 (420 + 14 * p + 4) = nI len from y8, nI_ltI (by omega) (by omega)]; exact hk)]
      exact e
theorem op_called {t : Nat} {w : Wd} (H : Inv t w) (x1 : Int32) : ∃ r, f_X9_called w x1 = some (r, w) ∧ f_X10_called w x1 = some (r, w) := by
  obtain ⟨S, R, P, hV, hC⟩ := H.now
  rcases rl x1 10 with ⟨p, hp, rfl⟩ | h
  · rcases place_cases hV hC hp with ⟨e1, e2⟩ | ⟨e1, n, st, len, y1, y2, y3, y4, y5, y6, y7, y8, y9, z1, z2, z3⟩
    · refine ⟨-1, ?_, ?_⟩
      · rw [f_X9_called, cHas_0 hp e2, Option.bind_some]
        dsimp only
        rw [if_pos (by decide)]
      · rw [f_X10_called, mHas_0 hp e1, Option.bind_some]
        dsimp only
        rw [if_pos (by decide)]
    · refine ⟨nI n, ?_, ?_⟩
      · rw [f_X9_called, cHas_T hp ⟨y1, by omega⟩ z1, Option.bind_some]
        dsimp only
        rw [if_neg (by decide), f_X0_numberAt, cHas_T hp ⟨y1, by omega⟩ z1, Option.bind_some]
        dsimp only
        rw [if_neg (by decide), if_pos (ibT hp (by omega)), nI_clamp (by omega), z1, Option.bind_some]
      · rw [f_X10_called, mHas_T hp e1, Option.bind_some]
        dsimp only
        rw [if_neg (by decide), lit, lit, nI_mul, nI_add, lit, nI_add, if_pos (ibT (by omega) (by omega)), nI_clamp (by omega), y5]
  · refine ⟨-1, ?_, ?_⟩
    · rw [f_X9_called, cHas_F h, Option.bind_some]
      dsimp only
      rw [if_pos (by decide)]
    · rw [f_X10_called, mHas_F h, Option.bind_some]
      dsimp only
      rw [if_pos (by decide)]
theorem cLen_T {n p m l : Nat} {w : Wd} (hp : p < 10) (hm : 1 ≤ m ∧ m < 2 ^ 31) (e : w n 14 p = nI m) (el : w n 16 p = nI l) : f_X0_length n w (nI p) = some (nI l, w) := by
  rw [f_X0_length, cHas_T hp hm e, Option.bind_some]
  dsimp only
  rw [if_neg (by decide), if_pos (ibT hp (by omega)), nI_clamp (by omega), el]
theorem cStep_T {n p m l k : Nat} {w : Wd} (hp : p < 10) (hm : 1 ≤ m ∧ m < 2 ^ 31) (hl : l ≤ 6) (hk : k < l) (e : w n 14 p = nI m) (el : w n 16 p = nI l) : f_X0_step n w (nI p) (nI k) = some (w n 17 (6 * p + k), w) := by
  rw [f_X0_step, if_neg (nI_pos (by omega)), cLen_T hp hm e el, Option.bind_some]
  dsimp only
  rw [if_neg (by rw [nI_leI (by omega) (by omega)]; omega), if_neg (by rw [lit, nI_leI (by omega) (by omega)]; omega), lit, nI_mul, nI_add, if_pos (ibT (by omega) (by omega)), nI_clamp (by omega), show p * 6 + k = 6 * p + k from by omega]
theorem op_way {t : Nat} {w : Wd} (H : Inv t w) (x1 x2 : Int32) : ∃ r, f_X9_way w x1 x2 = some (r, w) ∧ f_X10_way w x1 x2 = some (r, w) := by
  obtain ⟨S, R, P, hV, hC⟩ := H.now
  rcases rl x1 10 with ⟨p, hp, rfl⟩ | h
  · rcases place_cases hV hC hp with ⟨e1, e2⟩ | ⟨e1, n, st, len, y1, y2, y3, y4, y5, y6, y7, y8, y9, z1, z2, z3⟩
    · refine ⟨-1, ?_, ?_⟩
      · rw [f_X9_way, cHas_0 hp e2, Option.bind_some]
        dsimp only
        rw [if_pos (by decide)]
      · rw [f_X10_way, mHas_0 hp e1, Option.bind_some]
        dsimp only
        rw [if_pos (by decide)]
    · by_cases h0 : x2 < 0
      · have h0' : ¬ (0 : Int32) ≤ x2 := fun q => by
          rw [Int32.lt_iff_toInt_lt] at h0
          rw [Int32.le_iff_toInt_le] at q
          omega
        refine ⟨-1, ?_, ?_⟩
        · rw [f_X9_way, cHas_T hp ⟨y1, by omega⟩ z1, Option.bind_some]
          dsimp only
          rw [if_neg (by decide), if_neg h0']
        · rw [f_X10_way, mHas_T hp e1, Option.bind_some]
          dsimp only
          rw [if_neg (by decide), if_neg h0']
      · obtain ⟨k, hk, rfl⟩ := nI_of h0
        have h0' : (0 : Int32) ≤ nI k := nI_pos' hk
        by_cases hkl : k < len
        · obtain ⟨r, hr, f1, f2⟩ := y9 k hkl
          refine ⟨nI r, ?_, ?_⟩
          · rw [f_X9_way, cHas_T hp ⟨y1, by omega⟩ z1, Option.bind_some]
            dsimp only
            rw [if_neg (by decide), if_pos h0', cStep_T hp ⟨y1, by omega⟩ y4 hkl z1 z3, Option.bind_some, f2]
          · rw [f_X10_way, mHas_T hp e1, Option.bind_some]
            dsimp only
            rw [if_neg (by decide), if_pos h0', lit, lit, nI_mul, nI_add, leti, lit, nI_add, if_pos (ibT (by omega) (by omega)), nI_clamp (by omega), if_neg (by rw [y8, nI_leI (by omega) (by omega)]; omega), lit, nI_add, nI_add, if_pos (ibT (by omega) (by omega)), nI_clamp (by omega), show 420 + 14 * p + 5 + k = 420 + 14 * p + (5 + k) from by omega, f1]
        · refine ⟨-9, ?_, ?_⟩
          · rw [f_X9_way, cHas_T hp ⟨y1, by omega⟩ z1, Option.bind_some]
            dsimp only
            rw [if_neg (by decide), if_pos h0', f_X0_step, if_neg (nI_pos hk), cLen_T hp ⟨y1, by omega⟩ z1 z3, Option.bind_some]
            dsimp only
            rw [if_pos (by rw [nI_leI (by omega) (by omega)]; omega), Option.bind_some]
          · rw [f_X10_way, mHas_T hp e1, Option.bind_some]
            dsimp only
            rw [if_neg (by decide), if_pos h0', lit, lit, nI_mul, nI_add, leti, lit, nI_add, if_pos (ibT (by omega) (by omega)), nI_clamp (by omega), if_pos (by rw [y8, nI_leI (by omega) (by omega)]; omega)]
  · refine ⟨-1, ?_, ?_⟩
    · rw [f_X9_way, cHas_F h, Option.bind_some]
      dsimp only
      rw [if_pos (by decide)]
    · rw [f_X10_way, mHas_F h, Option.bind_some]
      dsimp only
      rw [if_pos (by decide)]
theorem op_attempt {t : Nat} {w : Wd} (H : Inv t w) (x1 x2 : Int32) : ∃ r, f_X9_attempt w x1 x2 = some (r, w) ∧ f_X10_attempt w x1 x2 = some (r, w) := by
  obtain ⟨A, a1, a2, a3, a4⟩ := H.2.2.2.2
  have hF : ∀ x, (∀ k, k < A → x ≠ nI k) → p_X8_has w x = nI 0 := by
    intro x h
    rw [p_X8_has]
    by_cases h0 : x < 0
    · rw [if_pos h0]; rfl
    · obtain ⟨k, hk, rfl⟩ := nI_of h0
      have : ¬ k < A := fun q => h k q rfl
      rw [if_neg h0, a2, if_pos (by rw [nI_leI (by omega) (by omega)]; omega)]; rfl
  have hT : ∀ k, k < A → p_X8_has w (nI k) = nI 1 := by
    intro k hk
    rw [p_X8_has, if_neg (nI_pos (by omega)), a2, if_neg (by rw [nI_leI (by omega) (by omega)]; omega), if_neg (by rw [lit, nI_leI (by omega) (by omega)]; omega)]; rfl
  rcases rl x1 A with ⟨k, hk, rfl⟩ | h
  · obtain ⟨b1, b2⟩ := a4 k hk
    rcases rg x2 0 1 with ⟨j, h1, h2, rfl⟩ | h
    · rcases (show j = 0 ∨ j = 1 by omega) with rfl | rfl
      · refine ⟨w 8 11 k, ?_, ?_⟩
        · rw [f_X9_attempt, hT k hk, if_neg (by decide), in_same, show (0 : Int32) = nI 0 from rfl, show (1 : Int32) = nI 1 from rfl, in_T (by omega) (by omega) (by omega), if_neg (by decide), if_pos rfl, f_X8_routeAt, hT k hk, if_neg (by decide), if_pos (ibT (by omega) (by omega)), nI_clamp (by omega), Option.bind_some, b1]
        · rw [f_X10_attempt, a3, show (0 : Int32) = nI 0 from rfl, show (1 : Int32) = nI 1 from rfl, inR_T (by omega) w hk, if_neg (by decide), in_T (by omega) (by omega) (by omega), if_neg (by decide), if_pos rfl, if_pos (ibT (by omega) (by omega)), nI_clamp (by omega)]
      · refine ⟨w 8 12 k, ?_, ?_⟩
        · rw [f_X9_attempt, hT k hk, if_neg (by decide), in_same, show (0 : Int32) = nI 0 from rfl, show (1 : Int32) = nI 1 from rfl, in_T (by omega) (by omega) (by omega), if_neg (by decide), if_neg (by decide), f_X8_codeAt, hT k hk, if_neg (by decide), if_pos (ibT (by omega) (by omega)), nI_clamp (by omega), Option.bind_some, b2]
        · rw [f_X10_attempt, a3, show (0 : Int32) = nI 0 from rfl, show (1 : Int32) = nI 1 from rfl, inR_T (by omega) w hk, if_neg (by decide), in_T (by omega) (by omega) (by omega), if_neg (by decide), if_neg (by decide), if_pos (ibT (by omega) (by omega)), nI_clamp (by omega)]
    · refine ⟨-1, ?_, ?_⟩
      · rw [f_X9_attempt, hT k hk, if_neg (by decide), in_same, show (0 : Int32) = nI 0 from rfl, show p_X10_in w x2 (nI 0) 1 = nI 0 from in_F (b := 1) (by omega) h (by omega), if_pos rfl]
      · rw [f_X10_attempt, a3, show (0 : Int32) = nI 0 from rfl, show nI A - 1 = nI A - nI 1 from rfl, inR_T (by omega) w hk, if_neg (by decide), show p_X10_in w x2 (nI 0) 1 = nI 0 from in_F (b := 1) (by omega) h (by omega), if_pos rfl]
  · refine ⟨-1, ?_, ?_⟩
    · rw [f_X9_attempt, hF x1 h, if_pos (by decide)]
    · rw [f_X10_attempt, a3, show (0 : Int32) = nI 0 from rfl, show nI A - 1 = nI A - nI 1 from rfl, inR_F (by omega) w x1 h, if_pos rfl]
