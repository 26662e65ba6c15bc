theorem min_nI {w : Wd} {a b : Nat} (ha : a < 2 ^ 31) (hb : b < 2 ^ 31) : p_J9_min_7cf53 w (nI a) (nI b) = nI (min a b) := by
  rw [p_J9_min_7cf53]
  by_cases h : b < a
  · rw [if_pos (by rw [nI_ltI hb ha]; exact h), Nat.min_eq_right (by omega)]
  · rw [if_neg (by rw [nI_ltI hb ha]; exact h), Nat.min_eq_left (by omega)]
theorem cNext {t S R P r : Nat} {v0 : Nat → Int32} {wc : Wd} (hV : Vd t v0 S R P) (hC : Cp (wc 0) v0 S R P) (hr : r < R) : f_X6_nextOf 0 wc (nI r) = some (nI (nxv v0 r), wc) := by
  have hR := hV.1.2.1
  obtain ⟨q1, q2, q3, q4, q5, q6, q7, q8⟩ := rtv hV (b := 0) (by omega) hr
  rw [f_X6_nextOf, hasRt_T hR (hC.1.2.1.trans hV.1.2.2.2.2.1) hr, if_neg (by decide), if_pos (ibT (by omega) (by omega)), nI_clamp (by omega), (hC.2.2.2.2.1 r hr).2.2.1, q7]
theorem cv_le {t S R P b r : Nat} {v0 : Nat → Int32} (hV : Vd t v0 S R P) (hb : b < 3) (hr : r < R) : cv (owv v0) (nxv v0) (cov v0 b) r ≤ 1000 := by
  obtain ⟨q1, q2, q3, q4, q5, q6, q7, q8⟩ := rtv hV hb hr
  unfold cv
  split <;> omega
theorem fs_loop {t S R P T D a c3 : Nat} {v0 : Nat → Int32} (hc3 : 16 < c3) (hV : Vd t v0 S R P) (ha : a < S) : ∀ (m k fu : Nat) (w : Wd), Cp (w 0) v0 S R P → R - k = m → k ≤ R → m < fu → (∀ u, u < 8 → w 7 c3 (8 * a + u) = nI (mnR (cf D R (owv v0) (prv v0) (nxv v0) (cov v0 (bandN T)) a u) k)) →
    ∃ row, h_X1_fillSwitch_18 0 c3 fu w (nI a) (cP (mx (ft D a (owv v0) (prv v0)) (prv v0) R)) (nI (bandN T)) (nI k) = some ((), wr w 7 c3 row) ∧ (∀ u, u < 8 → row (8 * a + u) = nI (cm D R (owv v0) (prv v0) (nxv v0) (cov v0 (bandN T)) a u)) ∧ ∀ j, ¬ (8 * a ≤ j ∧ j < 8 * a + 8) → row j = w 7 c3 j := by
  have hS := hV.1.1
  have hR := hV.1.2.1
  have hb := bandN_lt T
  intro m
  induction m with
  | zero =>
    intro k fu w hC h1 h2 h3 hu
    obtain ⟨fu, rfl⟩ : ∃ z, fu = z + 1 := ⟨fu - 1, by omega⟩
    have hk : k = R := by omega
    subst hk
    refine ⟨w 7 c3, ?_, hu, fun j _ => rfl⟩
    rw [h_X1_fillSwitch_18, b_X1_fillSwitch_18, p_X6_size, hC.1.2.1, hV.1.2.2.2.2.1, if_pos (by rw [nI_leI (by omega) (by omega)]; omega), wr_self]
  | succ m ih =>
    intro k fu w hC h1 h2 h3 hu
    obtain ⟨fu, rfl⟩ : ∃ z, fu = z + 1 := ⟨fu - 1, by omega⟩
    have hk : k < R := by omega
    obtain ⟨q1, q2, q3, q4, q5, q6, q7, q8⟩ := rtv hV hb hk
    have hcc := cc_of (b := bandN T) hV hC hb
    have hcost : f_X6_costOf 0 w (nI k) (nI (bandN T)) = some (nI (cov v0 (bandN T) k), w) := by
      rw [costOf_spec (by omega) hb, (hC.2.2.2.2.1 k hk).2.2.2.1 (bandN T) hb, q8]
    rw [h_X1_fillSwitch_18, b_X1_fillSwitch_18, p_X6_size, hC.1.2.1, hV.1.2.2.2.2.1, if_neg (by rw [nI_leI (by omega) (by omega)]; omega), cNext hV hC hk, Option.bind_some]
    dsimp only
    rw [show (nI a * 8 + nI (nxv v0 k) : Int32) = nI (8 * a + nxv v0 k) from by rw [lit, nI_mul, nI_add, Nat.mul_comm], leti, belongs_spec (D := D) hcc hk (by omega), Option.bind_some]
    dsimp only
    rw [nI_1]
    by_cases hm : mb D a R (owv v0) (prv v0) k = true
    · rw [if_pos hm, if_neg (by decide), if_neg (nI_pos (by omega)), if_neg (by rw [lit, nI_leI (by omega) (by omega)]; omega), cServes hV hC hk, Option.bind_some]
      dsimp only
      have key : ∀ z, z ≤ 1000 → z = cv (owv v0) (nxv v0) (cov v0 (bandN T)) k → ∃ row, j_X1_fillSwitch_90 0 c3 (h_X1_fillSwitch_18 0 c3 fu) w (nI a) (cP (mx (ft D a (owv v0) (prv v0)) (prv v0) R)) (nI (bandN T)) (nI k) (nI (8 * a + nxv v0 k)) (nI z) = some ((), wr w 7 c3 row) ∧ (∀ u, u < 8 → row (8 * a + u) = nI (cm D R (owv v0) (prv v0) (nxv v0) (cov v0 (bandN T)) a u)) ∧ ∀ j, ¬ (8 * a ≤ j ∧ j < 8 * a + 8) → row j = w 7 c3 j := by
        intro z hz ez
        have hle := mnR_le (f := cf D R (owv v0) (prv v0) (nxv v0) (cov v0 (bandN T)) a (nxv v0 k)) k
        obtain ⟨row, r1, r2, r3⟩ := ih (k + 1) fu (wup w 7 c3 (8 * a + nxv v0 k) (nI (min (mnR (cf D R (owv v0) (prv v0) (nxv v0) (cov v0 (bandN T)) a (nxv v0 k)) k) z))) (by rw [show wup w 7 c3 (8 * a + nxv v0 k) _ 0 = w 0 from funext fun c => by rw [wup_row, if_neg (by omega)]]; exact hC) (by omega) (by omega) (by omega) (by
          intro u hu8
          rw [wup_at, mnR]
          by_cases he : u = nxv v0 k
          · rw [if_pos ⟨rfl, rfl, by omega⟩, he, show cf D R (owv v0) (prv v0) (nxv v0) (cov v0 (bandN T)) a (nxv v0 k) k = z from by rw [cf, if_pos ⟨hm, rfl⟩, ez]]
          · rw [if_neg (by omega), hu u hu8, show cf D R (owv v0) (prv v0) (nxv v0) (cov v0 (bandN T)) a u k = 1000000 from if_neg (fun h => he h.2.symm), Nat.min_eq_left (mnR_le k)])
        refine ⟨row, ?_, r2, fun j hj => ?_⟩
        · rw [j_X1_fillSwitch_90, if_pos (ibT (by omega) (by omega)), if_pos (ibT (by omega) (by omega)), nI_clamp (by omega), hu _ (by omega), min_nI (by omega) (by omega), letw, nI_1, r1, wr_wup]
        · rw [r3 j hj, wup_at, if_neg (by omega)]
      by_cases hs : owv v0 k = nxv v0 k
      · rw [if_pos hs, if_neg (by decide)]
        exact key 0 (by omega) (by rw [cv, if_pos hs])
      · rw [if_neg hs, if_pos (by decide), hcost, Option.bind_some]
        dsimp only
        exact key _ q4 (by rw [cv, if_neg hs])
    · rw [if_neg hm, if_pos (by decide)]
      exact ih (k + 1) fu w hC (by omega) (by omega) (by omega) (fun u hu8 => by
        rw [hu u hu8, mnR, show cf D R (owv v0) (prv v0) (nxv v0) (cov v0 (bandN T)) a u k = 1000000 from if_neg (fun h => hm h.1), Nat.min_eq_left (mnR_le k)])
theorem fill35_loop {t S R P T D c3 : Nat} {v0 : Nat → Int32} (hc3 : 16 < c3) (hV : Vd t v0 S R P) (hT : v0 4 = nI T ∧ T ≤ 1000000) (hD : D < 10 ^ 13) : ∀ (m k fu : Nat) (w : Wd), Cp (w 0) v0 S R P → S - k = m → k ≤ S → m < fu → (∀ a u, a < 8 → u < 8 → w 7 c3 (8 * a + u) = nI (if a < k then cm D R (owv v0) (prv v0) (nxv v0) (cov v0 (bandN T)) a u else 1000000)) →
    ∃ row, h_X1_fill_35 0 c3 fu w (lI D) (nI k) = some ((), wr w 7 c3 row) ∧ ∀ a u, a < S → u < 8 → row (8 * a + u) = nI (cm D R (owv v0) (prv v0) (nxv v0) (cov v0 (bandN T)) a u) := by
  have hS := hV.1.1
  have hR := hV.1.2.1
  have hb := bandN_lt T
  intro m
  induction m with
  | zero =>
    intro k fu w hC h1 h2 h3 hu
    obtain ⟨fu, rfl⟩ : ∃ z, fu = z + 1 := ⟨fu - 1, by omega⟩
    have hk : k = S := by omega
    subst hk
    refine ⟨w 7 c3, ?_, fun a u ha hu8 => by rw [hu a u (by omega) hu8, if_pos ha]⟩
    rw [h_X1_fill_35, b_X1_fill_35, p_X4_switchCount, hC.1.1, hV.1.2.2.2.1, if_pos (by rw [nI_leI (by omega) (by omega)]; omega), wr_self]
  | succ m ih =>
    intro k fu w hC h1 h2 h3 hu
    obtain ⟨fu, rfl⟩ : ∃ z, fu = z + 1 := ⟨fu - 1, by omega⟩
    have hk : k < S := by omega
    have hcc := cc_of (b := bandN T) hV hC hb
    obtain ⟨row, r1, r2, r3⟩ := fs_loop (T := T) (D := D) hc3 hV hk R 0 FU w hC rfl (by omega) (by rw [FU_eq]; omega) (fun u hu8 => by rw [hu k u (by omega) hu8, if_neg (by omega), mnR])
    obtain ⟨row2, s1, s2⟩ := ih (k + 1) fu (wr w 7 c3 row) (by rw [show wr w 7 c3 row 0 = w 0 from funext fun c => by rw [wr_at, if_neg (by omega)]]; exact hC) (by omega) (by omega) (by omega) (by
      intro a u ha hu8
      rw [wr_at, if_pos ⟨rfl, rfl⟩]
      by_cases he : a = k
      · rw [he, r2 u hu8, if_pos (by omega)]
      · rw [r3 _ (by omega), hu a u ha hu8]
        by_cases hlt : a < k
        · rw [if_pos hlt, if_pos (by omega)]
        · rw [if_neg hlt, if_neg (by omega)])
    refine ⟨row2, ?_, s2⟩
    rw [h_X1_fill_35, b_X1_fill_35, p_X4_switchCount, hC.1.1, hV.1.2.2.2.1, if_neg (by rw [nI_leI (by omega) (by omega)]; omega), longest_spec hcc hD (by omega), Option.bind_some]
    dsimp only
    rw [f_X1_fillSwitch, p_X4_minutes, hC.1.2.2.2.2.1, hT.1, bandOf_c (by omega), Option.bind_some]
    dsimp only
    rw [show (0 : Int32) = nI 0 from rfl, r1, Option.bind_some]
    dsimp only
    rw [nI_1, s1, wr_wr]
theorem fill3_loop {c3 : Nat} {y3 : Int32} : ∀ (m k fu : Nat) (w : Wd), 64 - k = m → k ≤ 64 → m < fu → (∀ j, j < k → w 7 c3 j = nI 1000000) →
    ∃ row, (∀ j, j < 64 → row j = nI 1000000) ∧ h_X1_fill_3 0 c3 fu w y3 (nI k) = (f_X9_digitsOf (wr w 7 c3 row) ((wr w 7 c3 row) 7 16 2) y3).bind fun q1 => h_X1_fill_35 0 c3 FU q1.2 q1.1 0 := by
  intro m
  induction m with
  | zero =>
    intro k fu w h1 h2 h3 hu
    obtain ⟨fu, rfl⟩ : ∃ z, fu = z + 1 := ⟨fu - 1, by omega⟩
    have hk : k = 64 := by omega
    subst hk
    refine ⟨w 7 c3, hu, ?_⟩
    rw [h_X1_fill_3, b_X1_fill_3, if_pos (by decide), wr_self]
  | succ m ih =>
    intro k fu w h1 h2 h3 hu
    obtain ⟨fu, rfl⟩ : ∃ z, fu = z + 1 := ⟨fu - 1, by omega⟩
    obtain ⟨row, r1, r2⟩ := ih (k + 1) fu (wup w 7 c3 k (nI 1000000)) (by omega) (by omega) (by omega) (fun j hj => by
      rw [wup_at]
      by_cases he : j = k
      · rw [if_pos ⟨rfl, rfl, he⟩]
      · rw [if_neg (by omega), hu j (by omega)])
    refine ⟨row, r1, ?_⟩
    rw [h_X1_fill_3, b_X1_fill_3, if_neg (by rw [lit, nI_leI (by omega) (by omega)]; omega), if_pos (ibT (by omega) (by omega)), nI_clamp (by omega), letw, nI_1, show (1000000 : Int32) = nI 1000000 from rfl, r2, wr_wup]
theorem fill_spec {t S R P T n L c3 : Nat} {v0 : Nat → Int32} {w : Wd} {mk : Option Nat} (hc3 : 16 < c3) (hV : Vd t v0 S R P) (hC : Cp (w 0) v0 S R P) (hT : v0 4 = nI T ∧ T ≤ 1000000) (hn : 1 ≤ n ∧ n ≤ 999999999 ∧ IsLen n L ∧ L ≤ 9) (hmk : okM S mk) (e2 : w 7 16 2 = nI n) : ∃ row, f_X1_fill 0 c3 w (cM mk) = some ((), wr w 7 c3 row) ∧ ∀ a u, a < S → u < 8 → row (8 * a + u) = nI (cm (dn n L mk) R (owv v0) (prv v0) (nxv v0) (cov v0 (bandN T)) a u) := by
  have hS := hV.1.1
  obtain ⟨hn1, hn9, hnL, hL9⟩ := hn
  obtain ⟨row, r1, r2⟩ := fill3_loop (c3 := c3) (y3 := cM mk) 64 0 FU w rfl (by omega) (by rw [FU_eq]; omega) (fun j hj => by omega)
  obtain ⟨row2, s1, s2⟩ := fill35_loop (T := T) hc3 hV hT (dn_lt hnL hL9 hS hmk) S 0 FU (wr w 7 c3 row) (by rw [show wr w 7 c3 row 0 = w 0 from funext fun c => by rw [wr_at, if_neg (by omega)]]; exact hC) rfl (by omega) (by rw [FU_eq]; omega) (fun a u ha hu => by rw [wr_at, if_pos ⟨rfl, rfl⟩, r1 _ (by omega), if_neg (by omega)])
  refine ⟨row2, ?_, s2⟩
  rw [f_X1_fill, show (0 : Int32) = nI 0 from rfl, r2, wr_at, if_neg (by omega), e2, digitsOf_spec hnL hn9 hL9 hS hmk, Option.bind_some]
  dsimp only
  rw [show (0 : Int32) = nI 0 from rfl, s1, wr_wr]
