/-- what counts of a world -/
theorem Inv.same {t : Nat} {w w' : Wd} (H : Inv t w) (h0 : w' 0 = w 0) (hg : ∀ g, 2 ≤ g → g < 7 → w' g = w g) (h7 : ∀ c, c = 1 ∨ c = 3 ∨ c = 4 ∨ c = 12 ∨ c = 13 ∨ c = 14 → w' 7 c = w 7 c) (h8 : ∀ c, c = 1 ∨ c = 3 ∨ c = 11 ∨ c = 12 ∨ c = 14 → w' 8 c = w 8 c) (h80 : ∀ i, i = 3 ∨ i = 15 ∨ i = 19 → w' 8 0 i = w 8 0 i) : Inv t w' := by
  obtain ⟨h1, h2, h3, h4, h5⟩ := H
  refine ⟨h1, ?_, h3.congr (by rw [h7 1 (by omega)]) (by rw [h7 1 (by omega)]) (h80 3 (by omega)) hg (h8 3 (by omega)), h4.congr (by rw [h7 3 (by omega)]) (h80 19 (by omega)) (h7 4 (by omega)) (h8 14 (by omega)), h5.congr (by rw [h7 12 (by omega)]) (h80 15 (by omega)) (h7 13 (by omega)) (h7 14 (by omega)) (h8 11 (by omega)) (h8 12 (by omega))⟩
  rw [h0, h8 1 (by omega)]
  exact h2
theorem cheap_m {t S R P T n L Lim a : Nat} {v0 : Nat → Int32} {N0 : Nat → Nat → Int32} {tg : Option Nat} {mf : Nat → Option Nat → Option Nat} {w : Wd} (J : Kc t S R P T n L Lim v0 N0 tg mf) (h8 : w 8 1 = v0) (ha : a < S) : ∃ w', f_X10_cheapest w (nI a) (nI n) = some (bC (min 1000000 (mc n L Lim R (owv v0) (prv v0) (nxv v0) (cov v0 (bandN T)) mf 7 a 0 none)), w') ∧ (∀ g c, g ≠ 8 → w' g c = w g c) ∧ (∀ c, (c = 1 ∨ c = 2 ∨ c = 3 ∨ 10 ≤ c) → w' 8 c = w 8 c) ∧ ∀ i, i ≠ 5 → i ≠ 12 → w' 8 0 i = w 8 0 i := by
  obtain ⟨hV, hC, ⟨eT, hT⟩, ⟨eL, hL1, hL6⟩, ⟨hn1, hn9, hnL, hL9⟩, htg, hsw, hmf⟩ := id J
  have hS := hV.1.1
  have hR := hV.1.2.1
  have hnone : okM S none := fun q h => by cases h
  generalize hw4 : wup w 8 0 12 (-1) = w4
  have z8 : w4 8 1 = v0 := by rw [← h8, ← hw4, wup_row, if_neg (by omega)]
  have z12 : w4 8 0 12 = nI 0 - nI 1 := by rw [← hw4, wup_at, if_pos ⟨rfl, rfl, rfl⟩]; decide
  have fa : ∀ g c, g ≠ 8 → w4 g c = w g c := fun g c h => by rw [← hw4, wup_row, if_neg (by omega)]
  have fb : ∀ c, c ≠ 0 → w4 8 c = w 8 c := fun c h => by rw [← hw4, wup_row, if_neg (by omega)]
  have fc : ∀ i, i ≠ 12 → w4 8 0 i = w 8 0 i := fun i h => by rw [← hw4, wup_at, if_neg (by omega)]
  have hMk : Mk 0 0 w4 := ⟨by omega, by decide, fun a _ => ⟨fun h => absurd h (by simp), fun ⟨e, h, _⟩ => by omega⟩⟩
  have hst : f_X10_cheapest w (nI a) (nI n) = (f_X10_arrives w4 (nI a) (nI n) (mM none)).bind fun q5 => if q5.1 = 0 then some (0, q5.2) else h_X10_cheapest_53 FU q5.2 (nI n) (nI (bandN T)) (bC 1000000) := by
    rw [f_X10_cheapest, isSw_T hS (by rw [h8]; exact hV.1.2.2.2.1) ha, Option.bind_some]
    dsimp only
    rw [if_neg (by decide), (isNum_T hn1 hn9).2, Option.bind_some]
    dsimp only
    rw [if_neg (by decide), if_pos (show ib 4 640 = true from rfl), show Int32.toNatClampNeg 4 = 4 from rfl, h8, eT, bandOf_m (by omega), leti, letw, hw4]
    rfl
  have hnb : ¬ ((0 : Nat).testBit a = true ∨ Lim ≤ pop 0) := by
    rintro (h | h)
    · simp at h
    · rw [show pop 0 = 0 from by decide] at h; omega
  have out : ∀ (fu : Nat) (W : Wd) (y : Int32), W 8 0 12 = -1 → h_X10_cheapest_53 (fu + 1) W (nI n) (nI (bandN T)) y = some (y, W) := by
    intro fu W y h
    rw [h_X10_cheapest_53, b_X10_cheapest_53, if_pos (by rw [h]; decide)]
  obtain ⟨A1, A2, A3⟩ := arr_m J z8 hMk (by omega) z12 ha hnone
  by_cases hma : mf a none = some a
  · refine ⟨w4, ?_, fa, fun c h => fb c (by omega), fun i _ h => fc i h⟩
    rw [hst, A2 hnb hma, Option.bind_some]
    dsimp only
    rw [if_pos (show nI 0 = 0 from rfl), mc_t hnb hma]
    rfl
  · obtain ⟨K, ls, W, s1, s2, s3⟩ := A3 hnb hma
    have hmn := srt_mn (g := gf n L R (owv v0) (prv v0) (nxv v0) (cov v0 (bandN T)) (mc n L Lim R (owv v0) (prv v0) (nxv v0) (cov v0 (bandN T)) mf 6) a 0 (mf a none)) s1 (fun r _ h => by rw [gf, if_neg h])
    have hmcg : mc n L Lim R (owv v0) (prv v0) (nxv v0) (cov v0 (bandN T)) mf 7 a 0 none = _ := (mc_g hnb hma).trans hmn.symm
    rcases s3 with ⟨hK0, t1, t2⟩ | ⟨hK0, t1, t2, t3⟩
    · refine ⟨W, ?_, fun g c h => (s2.1 g c h).trans (fa g c h), fun c h => (s2.2.1 c h).trans (fb c (by omega)), fun i h h' => (s2.2.2.1 i h h').trans (fc i h')⟩
      rw [hst, t1, Option.bind_some]
      dsimp only
      rw [if_neg (by decide), show FU = (FU - 1) + 1 from by rw [FU_eq], out _ _ _ (by rw [t2, z12]; decide), hmcg, hK0, mnF]
      rfl
    · obtain ⟨k, W', p1, p2, p3, p4, p5, p6⟩ := chp_loop J 6 0 rfl K a 0 0 1000000 0 K (mf a none) ls W (by omega) (by omega) ha (hmf a none ha hnone).1 (by omega) s1 ((s2.2.1 1 (by omega)).trans z8) (hMk.keep (fun e he => by omega)) (by simp) t2 t3 ⟨fun _ => 0, fun _ => 0, fun _ => 0, rfl, rfl, fun e he => by omega⟩ (by omega) (by omega)
      have hK40 := s1.1
      have hkb : k ≤ 40 * Ex 6 := Nat.le_trans p1 (Nat.mul_le_mul_right _ (by omega))
      have hE6 : Ex 6 ≤ 1000000000 := by decide
      have hfu : FU = k + (FU - k - 1) + 1 := by rw [FU_eq]; omega
      have hfu2 : FU - k - 1 + 1 = (FU - k - 2) + 1 + 1 := by rw [FU_eq]; omega
      refine ⟨wup W' 8 0 12 (-1), ?_, fun g c h => ?_, fun c h => ?_, fun i h h' => ?_⟩
      · rw [hst, t1, Option.bind_some]
        dsimp only
        rw [if_neg (by decide), hfu, p2, hfu2, h_X10_cheapest_53, b_X10_cheapest_53, if_neg (by rw [p4]; decide), if_pos (by rw [p4]; decide), if_pos (by rw [p4]; decide), p4, nI_clamp (by omega), p5, p6, if_pos rfl, show (nI 0 - 1 : Int32) = -1 from by decide, letw, if_pos (by rw [wup_at, if_pos ⟨rfl, rfl, rfl⟩]; decide), out _ _ _ (by rw [wup_at, if_pos ⟨rfl, rfl, rfl⟩]), Nat.zero_add, hmcg]
      · rw [wup_row, if_neg (by omega)]; exact (p3.1 g c h).trans ((s2.1 g c h).trans (fa g c h))
      · rw [wup_row, if_neg (by omega)]; exact (p3.2.1 c h).trans ((s2.2.1 c h).trans (fb c (by omega)))
      · rw [wup_at, if_neg (by omega)]; exact (p3.2.2.1 i h h').trans ((s2.2.2.1 i h h').trans (fc i h'))
theorem op_cheapest {t : Nat} {w : Wd} (H : Inv t w) (x1 x2 : Int32) : ∃ r w1 w2, f_X9_cheapest w x1 x2 = some (r, w1) ∧ f_X10_cheapest w1 x1 x2 = some (r, w2) ∧ Inv t w2 := by
  obtain ⟨S, R, P, hV, hC⟩ := H.now
  have hS := hV.1.1
  have eS8 : w 8 1 0 = nI S := hV.1.2.2.2.1
  have eS : w 0 0 5 = nI S := hC.1.1.trans eS8
  obtain ⟨T, hT, eT⟩ := hV.2.2.1
  obtain ⟨Lim, hL1, hL6, eL⟩ := hV.2.1
  rcases rl x1 S with ⟨a, ha, rfl⟩ | h
  · rcases rg x2 1 999999999 with ⟨n, h1, h2, rfl⟩ | h
    · obtain ⟨L, l1, l2⟩ := IsLen.ex 9 n (by omega)
      obtain ⟨tg, mf, J⟩ := kc_ex hV hC ⟨eT, hT⟩ ⟨eL, hL1, hL6⟩ ⟨h1, h2, l2, l1⟩
      obtain ⟨w1, s1, s2, s3⟩ := search_spec (w := w) J rfl ha
      obtain ⟨w2, m1, m2, m3, m4⟩ := cheap_m (w := w1) J (s2 8 1 (by omega)) ha
      refine ⟨_, w1, w2, ?_, m1, ?_⟩
      · rw [f_X9_cheapest, hasSw_T hS eS ha, if_neg (by decide), (isNum_T h1 h2).1, Option.bind_some]
        dsimp only
        rw [if_neg (by decide), s1, Option.bind_some]
      · refine H.same ?_ (fun g hg1 hg2 => ?_) (fun c hc => ?_) (fun c hc => ?_) (fun i hi => ?_)
        · funext c; rw [m2 0 c (by omega), s2 0 c (by omega)]
        · funext c; rw [m2 g c (by omega), s2 g c (by omega)]
        · rw [m2 7 c (by omega), s3 c (by omega)]
        · rw [m3 c (by omega), s2 8 c (by omega)]
        · rw [m4 i (by omega) (by omega), s2 8 0 (by omega)]
    · refine ⟨-1, w, w, ?_, ?_, H⟩
      · rw [f_X9_cheapest, hasSw_T hS eS ha, if_neg (by decide), (isNum_F h).1, Option.bind_some]
        dsimp only
        rw [if_pos (by decide)]
      · rw [f_X10_cheapest, isSw_T hS eS8 ha, Option.bind_some]
        dsimp only
        rw [if_neg (by decide), (isNum_F h).2, Option.bind_some]
        dsimp only
        rw [if_pos (by decide)]
  · refine ⟨-1, w, w, ?_, ?_, H⟩
    · rw [f_X9_cheapest, hasSw_F hS eS h, if_pos (by decide)]
    · rw [f_X10_cheapest, isSw_F hS eS8 h, Option.bind_some]
      dsimp only
      rw [if_pos (by decide)]
