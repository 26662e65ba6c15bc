theorem HR.congr {t : Nat} {w w' : Wd} (h1 : w' 7 1 1 = w 7 1 1) (h2 : w' 7 1 2 = w 7 1 2) (h3 : w' 8 0 3 = w 8 0 3) (h4 : ∀ g, 2 ≤ g → g < 7 → w' g = w g) (h5 : w' 8 3 = w 8 3) (H : HR t w) : HR t w' := by
  obtain ⟨F, C, a1, a2, a3, a4, a5, a6⟩ := H
  refine ⟨F, C, a1, a2, h1.trans a3, h2.trans a4, h3.trans a5, fun i hi => ?_⟩
  have : (F + i) % 5 < 5 := Nat.mod_lt _ (by omega)
  rw [h4 _ (by omega) (by omega), h5]
  exact a6 i hi
/-- the model's own rows do not count -/
theorem Inv.own {t : Nat} {w w' : Wd} (H : Inv t w) (hg : ∀ g c, g ≠ 8 → w' g c = w g c) (h8 : ∀ c, c = 1 ∨ c = 3 ∨ c = 11 ∨ c = 12 ∨ c = 14 → w' 8 c = w 8 c) (h0 : ∀ i, i = 3 ∨ i = 15 ∨ i = 19 → w' 8 0 i = w 8 0 i) : Inv t w' := by
  obtain ⟨h1, h2, h3, h4, h5⟩ := H
  have e0 : ∀ g, g ≠ 8 → w' g = w g := fun g h => funext fun c => hg g c h
  refine ⟨h1, ?_, h3.congr (by rw [e0 7 (by omega)]) (by rw [e0 7 (by omega)]) (h0 3 (by omega)) (fun g _ _ => e0 g (by omega)) (h8 3 (by omega)), h4.congr (by rw [e0 7 (by omega)]) (h0 19 (by omega)) (hg 7 4 (by omega)) (h8 14 (by omega)), h5.congr (by rw [e0 7 (by omega)]) (h0 15 (by omega)) (hg 7 13 (by omega)) (hg 7 14 (by omega)) (h8 11 (by omega)) (h8 12 (by omega))⟩
  rw [e0 0 (by omega), h8 1 (by omega)]
  exact h2
def owv (v : Nat → Int32) (r : Nat) : Nat := (v (30 + 8 * r)).toNatClampNeg
def prv (v : Nat → Int32) (r : Nat) : Nat := (v (30 + 8 * r + 1)).toNatClampNeg
def nxv (v : Nat → Int32) (r : Nat) : Nat := (v (30 + 8 * r + 2)).toNatClampNeg
def cov (v : Nat → Int32) (b r : Nat) : Nat := (v (30 + 8 * r + (3 + b))).toNatClampNeg
theorem rtv {t S R P b r : Nat} {v : Nat → Int32} (hV : Vd t v S R P) (hb : b < 3) (hr : r < R) : owv v r < S ∧ prv v r ≤ 999999999 ∧ nxv v r < S ∧ cov v b r ≤ 1000 ∧ v (30 + 8 * r) = nI (owv v r) ∧ v (30 + 8 * r + 1) = nI (prv v r) ∧ v (30 + 8 * r + 2) = nI (nxv v r) ∧ v (30 + 8 * r + (3 + b)) = nI (cov v b r) := by
  have hS := hV.1.1
  obtain ⟨o, p, x, l, k, c, q1, q2, q3, q4, q5, q6, q7, q8, q9, q10, q11, q12, q13⟩ := rt_data hV hr
  have hc := q7 b hb
  have e1 : owv v r = o := by rw [owv, q8, nI_clamp (by omega)]
  have e2 : prv v r = p := by rw [prv, q9, nI_clamp (by omega)]
  have e3 : nxv v r = x := by rw [nxv, q10, nI_clamp (by omega)]
  have e4 : cov v b r = c b := by rw [cov, q11 b hb, nI_clamp (by omega)]
  rw [e1, e2, e3, e4]
  exact ⟨q1, q2, q3, hc, q8, q9, q10, q11 b hb⟩
theorem ct_of {t S R P T : Nat} {v : Nat → Int32} {w : Wd} (hV : Vd t v S R P) (hT : T ≤ 1000000) (eT : v 4 = nI T) (h1 : w 8 1 1 = v 1) (h4 : w 8 1 4 = v 4) (h : ∀ r k, r < R → k < 7 → w 8 1 (30 + 8 * r + k) = v (30 + 8 * r + k)) : Ct w R (bandN T) T (owv v) (prv v) (cov v (bandN T)) := by
  have hb := bandN_lt T
  have hS := hV.1.1
  refine ⟨hV.1.2.1, rfl, hT, h1.trans hV.1.2.2.2.2.1, h4.trans eT, fun r hr => ?_⟩
  obtain ⟨q1, q2, q3, q4, q5, q6, q7, q8⟩ := rtv hV hb hr
  have h0 := h r 0 hr (by omega)
  rw [Nat.add_zero] at h0
  exact ⟨by omega, q2, q4, h0.trans q5, (h r 1 hr (by omega)).trans q6, (h r (3 + bandN T) hr (by omega)).trans q8⟩
theorem cc_of {t S R P b : Nat} {v : Nat → Int32} {w : Wd} (hV : Vd t v S R P) (hC : Cp (w 0) v S R P) (hb : b < 3) : Cc w R b (owv v) (prv v) (cov v b) := by
  have hS := hV.1.1
  refine ⟨hV.1.2.1, hb, hC.1.2.1.trans hV.1.2.2.2.2.1, fun r hr => ?_⟩
  obtain ⟨q1, q2, q3, q4, q5, q6, q7, q8⟩ := rtv hV hb hr
  obtain ⟨y1, y2, y3, y4, y5, y6⟩ := hC.2.2.2.2.1 r hr
  exact ⟨by omega, q2, q4, y1.trans q5, y2.trans q6, (y4 b hb).trans q8⟩
theorem choice76_loop {w : Wd} {R b D a K k : Nat} {ow pr co ls : Nat → Nat} (hC : Cc w R b ow pr co) (ha : a < 8) (hS : Srt (mb D a R ow pr) co ls K R) (hk : k < 2 ^ 31) : ∀ (d i fu : Nat), K - i = d → i ≤ k → i ≤ K → d < fu → h_X9_choice_76 fu w (nI a) (nI k) (nI b) (cP (mx (ft D a ow pr) pr R)) (cM (chI ls K i)) (nI i) = some (cM (chI ls K k), w) := by
  have hK := hS.1
  have hR := hC.1
  intro d
  induction d with
  | zero =>
    intro i fu h1 h2 h2' h3
    obtain ⟨fu, rfl⟩ : ∃ z, fu = z + 1 := ⟨fu - 1, by omega⟩
    rw [h_X9_choice_76, b_X9_choice_76, show chI ls K i = none from if_neg (by omega), show chI ls K k = none from if_neg (by omega), cM]
    split
    · rfl
    · split
      · rfl
      · rw [if_pos rfl]
  | succ d ih =>
    intro i fu h1 h2 h2' h3
    obtain ⟨fu, rfl⟩ : ∃ z, fu = z + 1 := ⟨fu - 1, by omega⟩
    have hls := (hS.2.1 i (by omega)).1
    rw [h_X9_choice_76, b_X9_choice_76]
    by_cases hki : k ≤ i
    · have : i = k := by omega
      subst this
      rw [if_pos (by rw [nI_leI (by omega) (by omega)]; exact hki)]
    · rw [if_neg (by rw [nI_leI (by omega) (by omega)]; exact hki), if_neg (by rw [lit, nI_leI (by omega) (by omega)]; omega)]
      rw [show cM (chI ls K i) = nI (ls i) from by rw [chI, if_pos (by omega), cM], if_neg (by rw [show (-9 : Int32) = - nI 9 from rfl, nI_neg (by omega) (by omega) (by omega)]; exact id), (choice_spec hC ha hS).2 (by omega), Option.bind_some]
      dsimp only
      rw [nI_1]
      exact ih (i + 1) fu (by omega) (by omega) (by omega) (by omega)
theorem op_choice {t : Nat} {w : Wd} (H : Inv t w) (x1 x2 x3 : Int32) : ∃ r w2, f_X9_choice w x1 x2 x3 = some (r, w) ∧ f_X10_choice w x1 x2 x3 = some (r, w2) ∧ Inv t w2 := by
  obtain ⟨S, R, P, hV, hC⟩ := H.now
  have hS := hV.1.1
  have hR := hV.1.2.1
  have eS8 : w 8 1 0 = nI S := hV.1.2.2.2.1
  have eS : w 0 0 5 = nI S := hC.1.1.trans eS8
  obtain ⟨T, hT, eT⟩ := hV.2.2.1
  have e8 : w 0 0 8 = nI T := hC.1.2.2.2.2.1.trans eT
  rcases rl x1 S with ⟨a, ha, rfl⟩ | h
  · rcases rg x2 1 999999999 with ⟨n, h1, h2, rfl⟩ | h
    · by_cases h0 : 0 ≤ x3
      · obtain ⟨k, hk, rfl⟩ := nI_of (x := x3) (by rw [Int32.not_lt]; exact h0)
        obtain ⟨L, l1, l2⟩ := IsLen.ex 9 n (by omega)
        have hok : okM S none := fun q h => by cases h
        obtain ⟨m, w1, d1, d2, d3⟩ := dials_spec (w := w) l2 h2 l1 hS hok
        have e81 : w1 8 1 = w 8 1 := d3.1 8 1 (by omega)
        have hct : Ct w1 R (bandN T) T (owv (w 8 1)) (prv (w 8 1)) (cov (w 8 1) (bandN T)) := ct_of hV hT eT (by rw [e81]) (by rw [e81]) (fun r k _ _ => by rw [e81])
        have hcc := cc_of hV hC (bandN_lt T)
        obtain ⟨K, ls, l', g1, g2, g3, g4⟩ := gathers_spec (base := 0) (D := dn n L none) hct d2 (show a < 8 by omega) (by omega)
        have hK := g2.1
        refine ⟨cM (chI ls K k), wr w1 8 7 l', ?_, ?_, ?_⟩
        · rw [f_X9_choice, hasSw_T hS eS ha, if_neg (by decide), (isNum_T h1 h2).1, Option.bind_some]
          dsimp only
          rw [if_neg (by decide), if_pos h0, p_X4_minutes, e8, bandOf_c (by omega), Option.bind_some]
          dsimp only
          rw [show f_X9_digitsOf w (nI n) (-9) = f_X9_digitsOf w (nI n) (cM none) from rfl, digitsOf_spec l2 h2 l1 hS hok, Option.bind_some]
          dsimp only
          rw [longest_spec hcc (dn_lt l2 l1 hS hok) (by omega), Option.bind_some]
          dsimp only
          rw [(choice_spec (i := 0) hcc (by omega) g2).1, Option.bind_some]
          dsimp only
          exact choice76_loop hcc (by omega) g2 hk K 0 FU rfl (by omega) (by omega) (by rw [FU_eq]; omega)
        · rw [f_X10_choice, isSw_T hS eS8 ha, Option.bind_some]
          dsimp only
          rw [if_neg (by decide), (isNum_T h1 h2).2, Option.bind_some]
          dsimp only
          rw [if_neg (by decide), if_pos h0, show f_X10_dials w (nI n) (-1) = f_X10_dials w (nI n) (mM none) from rfl, d1, Option.bind_some]
          dsimp only
          rw [show f_X10_gathers w1 (nI a) 0 = f_X10_gathers w1 (nI a) (nI 0) from rfl, g1, Option.bind_some]
          dsimp only
          by_cases hkK : K ≤ k
          · rw [if_pos (by rw [nI_leI (by omega) (by omega)]; exact hkK), chI, if_neg (by omega), cM]
          · rw [if_neg (by rw [nI_leI (by omega) (by omega)]; exact hkK), if_pos (ibT (by omega) (by omega)), nI_clamp (by omega), wr_at, if_pos ⟨rfl, rfl⟩, chI, if_pos (by omega), cM]
            have := g3 k (by omega)
            rw [Nat.zero_add] at this
            rw [this]
        · refine H.own (fun g c hg => ?_) (fun c hc => ?_) (fun i hi => ?_)
          · rw [wr_at, if_neg (by omega), d3.1 g c (by omega)]
          · rw [wr_at, if_neg (by omega), d3.1 8 c (by omega)]
          · rw [wr_at, if_neg (by omega), d3.2 i (by omega)]
      · refine ⟨-1, w, ?_, ?_, H⟩
        · rw [f_X9_choice, hasSw_T hS eS ha, if_neg (by decide), (isNum_T h1 h2).1, Option.bind_some]
          dsimp only
          rw [if_neg (by decide), if_neg h0]
        · rw [f_X10_choice, isSw_T hS eS8 ha, Option.bind_some]
          dsimp only
          rw [if_neg (by decide), (isNum_T h1 h2).2, Option.bind_some]
          dsimp only
          rw [if_neg (by decide), if_neg h0]
    · refine ⟨-1, w, ?_, ?_, H⟩
      · rw [f_X9_choice, hasSw_T hS eS ha, if_neg (by decide), (isNum_F h).1, Option.bind_some]
        dsimp only
        rw [if_pos (by decide)]
      · rw [f_X10_choice, isSw_T hS eS8 ha, Option.bind_some]
        dsimp only
        rw [if_neg (by decide), (isNum_F h).2, Option.bind_some]
        dsimp only
        rw [if_pos (by decide)]
  · refine ⟨-1, w, ?_, ?_, H⟩
    · rw [f_X9_choice, hasSw_F hS eS h, if_pos (by decide)]
    · rw [f_X10_choice, isSw_F hS eS8 h, Option.bind_some]
      dsimp only
      rw [if_pos (by decide)]
