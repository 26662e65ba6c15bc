/-- the model writes the way down -/
theorem connects_loop {D : Nat} {pth tj ow : Nat → Nat} (hD : D < 6) (how : ∀ j, j ≤ D → ow j < 30) (htj : ∀ j, j ≤ D → tj j < 40) : ∀ (m j fu : Nat) (w : Wd), D + 1 - j = m → j ≤ D + 1 → m < fu → w 8 0 12 = nI j → w 8 0 17 = nI j → (∀ j', j' ≤ D → w 8 9 j' = nI (tj j') ∧ w 8 7 (40 * j' + tj j') = nI (pth j') ∧ w 8 10 j' = nI (ow j')) →
    ∃ w', h_X10_connects_15 fu w (nI D) = some ((), w') ∧ w' 8 0 17 = nI (D + 1) ∧ (∀ j', j ≤ j' → j' ≤ D → w' 8 13 j' = nI (pth j') ∧ w' 8 12 (ow j') = nI 0) ∧ (∀ j', j' < j → w' 8 13 j' = w 8 13 j') ∧ (∀ i, (∀ j', j ≤ j' → j' ≤ D → ow j' ≠ i) → w' 8 12 i = w 8 12 i) ∧ (∀ i, w 8 12 i = nI 0 → w' 8 12 i = nI 0) ∧ (∀ g c, ¬ (g = 8 ∧ (c = 0 ∨ c = 12 ∨ c = 13)) → w' g c = w g c) ∧ ∀ i, i ≠ 12 → i ≠ 17 → w' 8 0 i = w 8 0 i := by
  intro m
  induction m with
  | zero =>
    intro j fu w h1 h2 h3 h4 h5 h6
    obtain ⟨fu, rfl⟩ : ∃ z, fu = z + 1 := ⟨fu - 1, by omega⟩
    have hj : j = D + 1 := by omega
    subst hj
    refine ⟨w, ?_, h5, fun j' a b => by omega, fun _ _ => rfl, fun _ _ => rfl, fun _ h => h, fun _ _ _ => rfl, fun _ _ _ => rfl⟩
    rw [h_X10_connects_15, b_X10_connects_15, if_pos (by rw [h4, nI_ltI (by omega) (by omega)]; omega)]
  | succ m ih =>
    intro j fu w h1 h2 h3 h4 h5 h6
    obtain ⟨fu, rfl⟩ : ∃ z, fu = z + 1 := ⟨fu - 1, by omega⟩
    obtain ⟨e9, e7, e10⟩ := h6 j (by omega)
    have hoj := how j (by omega)
    have hat := atHand_spec (wm := w) (by omega) (htj j (by omega)) h4 e9 e7
    generalize hw4 : wup (wup (wup (wup w 8 13 j (nI (pth j))) 8 12 (ow j) (nI 0)) 8 0 17 (nI (j + 1))) 8 0 12 (nI (j + 1)) = w4
    have a1 : ∀ g c, ¬ (g = 8 ∧ (c = 0 ∨ c = 12 ∨ c = 13)) → w4 g c = w g c := fun g c h => by
      rw [← hw4, wup_row, if_neg (by omega), wup_row, if_neg (by omega), wup_row, if_neg (by omega), wup_row, if_neg (by omega)]
    have a2 : ∀ i, i ≠ 12 → i ≠ 17 → w4 8 0 i = w 8 0 i := fun i h1 h2 => by
      rw [← hw4, wup_at, if_neg (by omega), wup_at, if_neg (by omega), wup_at, if_neg (by omega), wup_at, if_neg (by omega)]
    have a3 : ∀ i, w4 8 12 i = if i = ow j then nI 0 else w 8 12 i := fun i => by
      rw [← hw4, wup_at, if_neg (by omega), wup_at, if_neg (by omega), wup_at]
      by_cases hi : i = ow j
      · rw [if_pos ⟨rfl, rfl, hi⟩, if_pos hi]
      · rw [if_neg (by omega), if_neg hi, wup_at, if_neg (by omega)]
    have a4 : ∀ i, w4 8 13 i = if i = j then nI (pth j) else w 8 13 i := fun i => by
      rw [← hw4, wup_at, if_neg (by omega), wup_at, if_neg (by omega), wup_at, if_neg (by omega), wup_at]
      by_cases hi : i = j
      · rw [if_pos ⟨rfl, rfl, hi⟩, if_pos hi]
      · rw [if_neg (by omega), if_neg hi]
    obtain ⟨w', b1, b2, b3, b4, b5, b6, b7, b8⟩ := ih (j + 1) fu w4 (by omega) (by omega) (by omega) (by rw [← hw4, wup_at, if_pos ⟨rfl, rfl, rfl⟩]) (by rw [← hw4, wup_at, if_neg (by omega), wup_at, if_pos ⟨rfl, rfl, rfl⟩]) (fun j' hj' => by
      rw [a1 8 9 (by omega), a1 8 7 (by omega), a1 8 10 (by omega)]; exact h6 j' hj')
    refine ⟨w', ?_, b2, fun j' x1 x2 => ?_, fun j' x => ?_, fun i x => ?_, fun i x => ?_, fun g c x => (b7 g c x).trans (a1 g c x), fun i x1 x2 => (b8 i x1 x2).trans (a2 i x1 x2)⟩
    · have g1 : wup w 8 13 j (nI (pth j)) 8 0 12 = nI j := by rw [wup_at, if_neg (by omega)]; exact h4
      have g2 : wup w 8 13 j (nI (pth j)) 8 10 j = nI (ow j) := by rw [wup_at, if_neg (by omega)]; exact e10
      have g3 : wup (wup w 8 13 j (nI (pth j))) 8 12 (ow j) (nI 0) 8 0 17 = nI j := by rw [wup_at, if_neg (by omega), wup_at, if_neg (by omega)]; exact h5
      have g4 : wup (wup (wup w 8 13 j (nI (pth j))) 8 12 (ow j) (nI 0)) 8 0 17 (nI (j + 1)) 8 0 12 = nI j := by rw [wup_at, if_neg (by omega), wup_at, if_neg (by omega), wup_at, if_neg (by omega)]; exact h4
      rw [h_X10_connects_15, b_X10_connects_15, if_neg (by rw [h4, nI_ltI (by omega) (by omega)]; omega), hat, Option.bind_some]
      dsimp only
      rw [if_pos (by rw [h5]; exact ibT (by omega) (by omega)), h5, nI_clamp (by omega), letw, if_pos (by rw [g1]; exact ibT (by omega) (by omega)), g1, nI_clamp (by omega), g2, if_pos (ibT hoj (by omega)), nI_clamp (by omega), show (0 : Int32) = nI 0 from rfl, letw, g3, show (nI j + 1 : Int32) = nI (j + 1) from nI_add j 1, letw, g4, show (nI j + 1 : Int32) = nI (j + 1) from nI_add j 1, letw, hw4]
      exact b1
    · by_cases hj' : j' = j
      · subst hj'
        refine ⟨by rw [b4 j' (by omega), a4, if_pos rfl], b6 _ (by rw [a3, if_pos rfl])⟩
      · exact b3 j' (by omega) x2
    · rw [b4 j' (by omega), a4, if_neg (by omega)]
    · rw [b5 i (fun j' y1 y2 => x j' (by omega) y2), a3, if_neg (fun h => x j (by omega) (by omega) h.symm)]
    · refine b6 i ?_
      rw [a3]
      split
      · rfl
      · exact x
/-- a journey on both sides -/
theorem places_both {t S R P T n L Lim bz a : Nat} {v0 : Nat → Int32} {N0 : Nat → Nat → Int32} {wA wM : Wd} (ht : t ≤ 600) (J : Jc t S R P T n L Lim bz v0 N0) (ha : a < S) (h0 : wA 0 = N0) (h8 : wM 8 1 = v0) :
    ∃ c wB wN A, c ≤ 6 ∧ A ≤ 30 ∧ f_X3_start 0 wA (nI a) (nI n) = some (nI c, wB) ∧ f_X10_places wM (nI a) (nI n) = some (nI c, wN) ∧ (∀ g d, g ≠ 7 → wB g d = wA g d) ∧ (∀ d, (d < 11 ∨ 16 ≤ d) → wB 7 d = wA 7 d) ∧ wB 7 11 3 = nI n ∧ (wB 7 12 2 = nI A ∧ wN 8 0 15 = nI A ∧ ∀ i, i < A → wB 7 13 i = wN 8 11 i ∧ wB 7 14 i = wN 8 12 i) ∧ (∀ g d, g ≠ 8 → wN g d = wM g d) ∧ (∀ d, (d = 2 ∨ d = 3 ∨ 14 ≤ d) → wN 8 d = wM 8 d) ∧ (∀ i, (i = 3 ∨ i = 19) → wN 8 0 i = wM 8 0 i) ∧
    (c = 0 → ∃ len pth, len ≤ 6 ∧ wB 7 11 2 = nI len ∧ wN 8 0 17 = nI len ∧ (∀ j, j < len → pth j < R ∧ wB 7 15 j = nI (pth j) ∧ wN 8 13 j = nI (pth j)) ∧ wN 8 1 = oc pth len 0 v0 ∧ Vd t (wN 8 1) S R P) := by
  obtain ⟨hV, hC, ⟨eT, hT0⟩, ⟨eL, hL1, hL6⟩, ⟨hn1, hn9, hnL, hL9⟩, hbz, hb1, hb2⟩ := id J
  have e8 : ∀ w : Wd, w 0 = N0 → p_X4_minutes 0 w = nI T := fun w hw => by rw [p_X4_minutes, hw, hC.1.2.2.2.2.1, eT]
  -- the router's start
  generalize hw2 : wup (wup wA 7 11 3 (nI n)) 7 11 2 (nI 0) = w2
  generalize hw4 : wup w2 7 11 4 (nI (bandN T)) = w4
  generalize hwS : wup (wup w4 7 11 5 (nI bz)) 7 12 2 (nI 0) = wS
  have z2 : w2 0 = N0 := by rw [← h0, ← hw2]; funext c; rw [wup_row, if_neg (by omega), wup_row, if_neg (by omega)]
  have z4 : w4 0 = N0 := by rw [← z2, ← hw4]; funext c; rw [wup_row, if_neg (by omega)]
  have zS : wS 0 = N0 := by rw [← z4, ← hwS]; funext c; rw [wup_row, if_neg (by omega), wup_row, if_neg (by omega)]
  have fS1 : ∀ g d, g ≠ 7 → wS g d = wA g d := fun g d h => by
    rw [← hwS, wup_row, if_neg (by omega), wup_row, if_neg (by omega), ← hw4, wup_row, if_neg (by omega), ← hw2, wup_row, if_neg (by omega), wup_row, if_neg (by omega)]
  have fS2 : ∀ d, (d < 11 ∨ 16 ≤ d) → wS 7 d = wA 7 d := fun d h => by
    rw [← hwS, wup_row, if_neg (by omega), wup_row, if_neg (by omega), ← hw4, wup_row, if_neg (by omega), ← hw2, wup_row, if_neg (by omega), wup_row, if_neg (by omega)]
  have hWc : Wc T n bz N0 wS := by
    refine ⟨zS, ?_, ?_, ?_⟩
    · rw [← hwS, wup_at, if_neg (by omega), wup_at, if_neg (by omega), ← hw4, wup_at, if_neg (by omega), ← hw2, wup_at, if_neg (by omega), wup_at, if_pos ⟨rfl, rfl, rfl⟩]
    · rw [← hwS, wup_at, if_neg (by omega), wup_at, if_neg (by omega), ← hw4, wup_at, if_pos ⟨rfl, rfl, rfl⟩]
    · rw [← hwS, wup_at, if_neg (by omega), wup_at, if_pos ⟨rfl, rfl, rfl⟩]
  have s2 : wS 7 11 2 = nI 0 := by rw [← hwS, wup_at, if_neg (by omega), wup_at, if_neg (by omega), ← hw4, wup_at, if_neg (by omega), ← hw2, wup_at, if_pos ⟨rfl, rfl, rfl⟩]
  have s12 : wS 7 12 2 = nI 0 := by rw [← hwS, wup_at, if_pos ⟨rfl, rfl, rfl⟩]
  have hst : f_X3_start 0 wA (nI a) (nI n) = (f_X3_arrive (9 + 1) 0 wS (nI a) (nI 0) (cM none)).bind fun q8 => some (q8.1, q8.2) := by
    rw [f_X3_start, letw, show (0 : Int32) = nI 0 from rfl, hw2, letw, e8 w2 z2, bandOf_c (by omega), Option.bind_some]
    dsimp only
    rw [hw4, letw, hb1 w4 z4, Option.bind_some]
    dsimp only
    rcases hbz with rfl | rfl
    · rw [if_pos (by decide), j_X3_start_38, letw, f_X8_empty, letw, Option.bind_some]
      dsimp only
      rw [show (0 : Int32) = nI 0 from rfl, hwS]; rfl
    · rw [if_neg (by decide), j_X3_start_38, letw, f_X8_empty, letw, Option.bind_some]
      dsimp only
      rw [show (0 : Int32) = nI 0 from rfl, show (5 : Int32) = nI 5 from rfl, hwS]; rfl
  -- the model's start
  generalize hwm : wup (wup wM 8 0 12 (-1)) 8 0 15 0 = wm
  have m1 : wm 8 1 = v0 := by rw [← hwm, wup_row, if_neg (by omega), wup_row, if_neg (by omega)]; exact h8
  have m12 : wm 8 0 12 = nI 0 - nI 1 := by rw [← hwm, wup_at, if_neg (by omega), wup_at, if_pos ⟨rfl, rfl, rfl⟩]; decide
  have m15 : wm 8 0 15 = nI 0 := by rw [← hwm, wup_at, if_pos ⟨rfl, rfl, rfl⟩]; rfl
  have fm1 : ∀ g d, g ≠ 8 → wm g d = wM g d := fun g d h => by rw [← hwm, wup_row, if_neg (by omega), wup_row, if_neg (by omega)]
  have fm2 : ∀ d, d ≠ 0 → wm 8 d = wM 8 d := fun d h => by rw [← hwm, wup_row, if_neg (by omega), wup_row, if_neg (by omega)]
  have fm3 : ∀ i, i ≠ 12 → i ≠ 15 → wm 8 0 i = wM 8 0 i := fun i h h' => by rw [← hwm, wup_at, if_neg (by omega), wup_at, if_neg (by omega)]
  have hpl : f_X10_places wM (nI a) (nI n) = (f_X10_arrives wm (nI a) (nI n) (mM none)).bind fun q3 => if q3.1 = 0 then (f_X10_isBusy q3.2 (nI n)).bind fun q12 => if q12.1 = 0 then h_X10_places_36 FU q12.2 (nI n) q3.1 else h_X10_places_36 FU q12.2 (nI n) 5 else h_X10_places_36 FU q3.2 (nI n) q3.1 := by
    rw [f_X10_places, letw, letw, hwm]; rfl
  have hWm : Wm t S R P 0 v0 wm := ⟨by rw [m1]; exact hV, fun j _ => by rw [m1], fun r _ _ => by rw [m1]⟩
  have hMk : Mk 0 0 wm := ⟨by omega, by decide, fun a _ => ⟨fun h => absurd h (by simp), fun ⟨e, h, _⟩ => by omega⟩⟩
  have hTc0 : Tc 0 0 wS wm := ⟨by omega, s12, m15, fun i hi => by omega⟩
  -- the model's loop with no place left
  have fin : ∀ (fu : Nat) (w : Wd) (y : Int32), w 8 0 12 = -1 → h_X10_places_36 (fu + 1) w (nI n) y = some (y, wup w 8 0 17 0) := by
    intro fu w y h
    rw [h_X10_places_36, b_X10_places_36, if_pos (by rw [h]; decide), letw]
  have fin' : ∀ (w : Wd) (y : Int32), w 8 0 12 = -1 → h_X10_places_36 FU w (nI n) y = some (y, wup w 8 0 17 0) := by
    intro w y h
    have := fin (FU - 1) w y h
    rw [show FU - 1 + 1 = FU from by rw [FU_eq]] at this
    exact this
  have m12' : wm 8 0 12 = -1 := by rw [m12]; decide
  have hnone : okM S none := fun q h => by cases h
  rcases arr_both (x := 9) J hWc hWm hMk (by omega) m12 ha hnone with ⟨c, hc34, g1, g2⟩ | ⟨g1, g2⟩ | ⟨wX, g1, g2, g3, g4⟩ | ⟨mk', K', ls', wX, g0, gb, gK, gm, gS, g1, g2, g3, g4, g5⟩
  · refine ⟨c, wS, wup wm 8 0 17 0, 0, by omega, by omega, ?_, ?_, fS1, fS2, hWc.2.1, ⟨s12, by rw [wup_at, if_neg (by omega)]; exact m15, fun i hi => by omega⟩, fun g d h => by rw [wup_row, if_neg (by omega)]; exact fm1 g d h, fun d h => by rw [wup_row, if_neg (by omega)]; exact fm2 d (by omega), fun i h => by rw [wup_at, if_neg (by omega)]; exact fm3 i (by omega) (by omega), fun h => by omega⟩
    · rw [hst, g1, Option.bind_some]
    · rw [hpl, g2, Option.bind_some]
      dsimp only
      rw [if_neg (nI_ne_0 (by omega) (by omega)), fin' _ _ m12']
  · refine ⟨bz, wup wS 7 11 2 (nI 0), wup wm 8 0 17 0, 0, by omega, by omega, ?_, ?_, fun g d h => by rw [wup_row, if_neg (by omega)]; exact fS1 g d h, fun d h => by rw [wup_row, if_neg (by omega)]; exact fS2 d h, by rw [wup_at, if_neg (by omega)]; exact hWc.2.1, ⟨by rw [wup_at, if_neg (by omega)]; exact s12, by rw [wup_at, if_neg (by omega)]; exact m15, fun i hi => by omega⟩, fun g d h => by rw [wup_row, if_neg (by omega)]; exact fm1 g d h, fun d h => by rw [wup_row, if_neg (by omega)]; exact fm2 d (by omega), fun i h => by rw [wup_at, if_neg (by omega)]; exact fm3 i (by omega) (by omega), fun h => ?_⟩
    · rw [hst, g1, Option.bind_some]
    · rw [hpl, g2, Option.bind_some]
      dsimp only
      rw [if_pos (show nI 0 = 0 from rfl), hb2 wm (fun j _ _ => by rw [m1]), Option.bind_some]
      dsimp only
      rcases hbz with rfl | rfl
      · rw [if_pos (by decide), fin' _ _ m12']
      · rw [if_neg (by decide), fin' _ _ m12']; rfl
    · refine ⟨0, fun _ => 0, by omega, by rw [wup_at, if_pos ⟨rfl, rfl, rfl⟩], by rw [wup_at, if_pos ⟨rfl, rfl, rfl⟩]; rfl, fun j hj => by omega, ?_, ?_⟩
      · rw [wup_row, if_neg (by omega)]; exact m1
      · rw [wup_row, if_neg (by omega), m1]; exact hV
  · refine ⟨1, wS, wup wX 8 0 17 0, 0, by omega, by omega, ?_, ?_, fS1, fS2, hWc.2.1, ⟨s12, by rw [wup_at, if_neg (by omega), g3.2.2.1 15 (by omega) (by omega)]; exact m15, fun i hi => by omega⟩, fun g d h => by rw [wup_row, if_neg (by omega), g3.1 g d h]; exact fm1 g d h, fun d h => by rw [wup_row, if_neg (by omega), g3.2.1 d (by omega)]; exact fm2 d (by omega), fun i h => by rw [wup_at, if_neg (by omega), g3.2.2.1 i (by omega) (by omega)]; exact fm3 i (by omega) (by omega), fun h => by omega⟩
    · rw [hst, g1, Option.bind_some]
    · rw [hpl, g2, Option.bind_some]
      dsimp only
      rw [if_neg (nI_ne_0 (by omega) (by omega)), fin' _ _ (g4.trans m12')]
  · have hTX : Tc 0 0 wS wX := hTc0.keepm (g3.2.2.1 15 (by omega) (by omega)) (g3.2.1 11 (by omega)) (g3.2.1 12 (by omega)) (fun j h => by omega)
    have e1X : wX 8 1 = wm 8 1 := g3.2.1 1 (by omega)
    have hK' := gS.1
    have hR := hV.1.2.1
    obtain ⟨c, wc', wm', A', k, i1, i2, i3, i4, i5, i6, i7, i8⟩ := loop_ok ht J 6 0 rfl a 0 0 0 K' mk' ls' (nI 1) wS wX FU g0 ha gm gK gS hWc (hWm.keep e1X) (hMk.keep (fun e he => by omega)) gb g4 g5 hTX (by rw [FU_eq]; omega)
    have hEx6 : Ex 6 = 420102564 ∨ Ex 6 ≤ 1000000000 := Or.inr (by decide)
    have hk : k + 3 ≤ FU := by
      rw [FU_eq]
      have h1 : (K' - 0) * Ex 6 ≤ 40 * Ex 6 := Nat.mul_le_mul_right _ (by omega)
      have h2 : Ex 6 ≤ 1000000000 := by decide
      omega
    obtain ⟨fu, hfu⟩ : ∃ fu, FU = k + (fu + 1) + 1 := ⟨FU - k - 2, by omega⟩
    have hmod : f_X10_places wM (nI a) (nI n) = h_X10_places_36 (fu + 1 + 1) wm' (nI n) (nI c) := by
      rw [hpl, g2, Option.bind_some]
      dsimp only
      rw [if_neg (by decide), hfu]
      exact i4 (fu + 1)
    have hcl : f_X3_start 0 wA (nI a) (nI n) = some (nI c, wc') := by
      rw [hst, g1, show f_X3_arrive 9 = f_X3_arrive (3 + 6) from rfl, i3, Option.bind_some, Option.bind_some]
    have fN1 : ∀ g d, g ≠ 8 → wm' g d = wM g d := fun g d h => ((i6.1 g d h).trans (g3.1 g d h)).trans (fm1 g d h)
    have fN2 : ∀ d, (d = 2 ∨ d = 3 ∨ 14 ≤ d) → wm' 8 d = wM 8 d := fun d h => ((i6.2.1 d (by omega)).trans (g3.2.1 d (by omega))).trans (fm2 d (by omega))
    have fN3 : ∀ i, (i = 3 ∨ i = 19) → wm' 8 0 i = wM 8 0 i := fun i h => ((i6.2.2.1 i (by omega) (by omega) (by omega)).trans (g3.2.2.1 i (by omega) (by omega))).trans (fm3 i (by omega) (by omega))
    have fB1 : ∀ g d, g ≠ 7 → wc' g d = wA g d := fun g d h => (i5.1 g d h).trans (fS1 g d h)
    have fB2 : ∀ d, (d < 11 ∨ 16 ≤ d) → wc' 7 d = wA 7 d := fun d h => (i5.2.1 d h).trans (fS2 d h)
    have fB3 : wc' 7 11 3 = nI n := (i5.2.2.1 3 (by omega)).trans hWc.2.1
    rcases i8 with ⟨c0, y1, y2, y3⟩ | ⟨c0, D, y0, yD, y1, y2, ⟨pth, tj, y3, y4⟩, y5, y6⟩
    · refine ⟨c, wc', wup (wup wm' 8 0 12 (nI 0 - 1)) 8 0 17 0, A', i1, y3.1, hcl, ?_, fB1, fB2, fB3, ⟨y3.2.1, by rw [wup_at, if_neg (by omega), wup_at, if_neg (by omega)]; exact y3.2.2.1, fun i hi => ?_⟩, fun g d h => by rw [wup_row, if_neg (by omega), wup_row, if_neg (by omega)]; exact fN1 g d h, fun d h => by rw [wup_row, if_neg (by omega), wup_row, if_neg (by omega)]; exact fN2 d h, fun i h => by rw [wup_at, if_neg (by omega), wup_at, if_neg (by omega)]; exact fN3 i h, fun h => absurd h c0⟩
      · have e1 : wup wm' 8 0 12 (nI 0 - 1) 8 0 12 = -1 := by rw [wup_at, if_pos ⟨rfl, rfl, rfl⟩]; decide
        rw [hmod, h_X10_places_36, b_X10_places_36, if_neg (by rw [y1]; decide), if_neg (nI_ne_m1 (by omega)), if_neg (nI_ne_0 (by omega) c0), f_X10_leaves, y1, letw, if_pos (by rw [e1]; decide), Option.bind_some]
        dsimp only
        rw [if_neg (by rw [e1]; decide), fin fu _ _ e1]
      · rw [wup_row, if_neg (by omega), wup_row, if_neg (by omega), wup_row, if_neg (by omega), wup_row, if_neg (by omega)]
        obtain ⟨b1, b2⟩ := y3.2.2.2 i hi
        rcases b2 with b2 | ⟨j, hj, _⟩
        · exact ⟨b1, b2⟩
        · omega
    · subst c0
      obtain ⟨ow, how⟩ : ∃ ow : Nat → Nat, ∀ j, j ≤ D → ow j < A' ∧ wm' 8 10 j = nI (ow j) ∧ wc' 7 14 (ow j) = nI 0 := by
        refine ⟨fun j => if h : j ≤ D then (y3 j (by omega) h).2.2.2.2.2.choose else 0, fun j hj => ?_⟩
        dsimp only
        rw [dif_pos hj]
        exact (y3 j (by omega) hj).2.2.2.2.2.choose_spec
      have hA30 := y6.1
      generalize hwz : wup (wup wm' 8 0 17 0) 8 0 12 0 = wz
      have ez : ∀ g c, ¬ (g = 8 ∧ c = 0) → wz g c = wm' g c := fun g c h => by rw [← hwz, wup_row, if_neg h, wup_row, if_neg h]
      obtain ⟨w', b1, b2, b3, b4, b5, b6, b7, b8⟩ := connects_loop (pth := pth) (tj := tj) (ow := ow) yD (fun j hj => by have := (how j hj).1; omega) (fun j hj => (y3 j (by omega) hj).2.1) (D + 1) 0 FU wz (by omega) (by omega) (by rw [FU_eq]; omega) (by rw [← hwz, wup_at, if_pos ⟨rfl, rfl, rfl⟩]; rfl) (by rw [← hwz, wup_at, if_neg (by omega), wup_at, if_pos ⟨rfl, rfl, rfl⟩]; rfl) (fun j hj => by
        rw [ez 8 9 (by omega), ez 8 7 (by omega), ez 8 10 (by omega)]
        exact ⟨(y3 j (by omega) hj).2.2.1, (y3 j (by omega) hj).2.2.2.1, (how j hj).2.1⟩)
      have ez0 : ∀ i, i ≠ 12 → i ≠ 17 → wz 8 0 i = wm' 8 0 i := fun i h1 h2 => by rw [← hwz, wup_at, if_neg (by omega), wup_at, if_neg (by omega)]
      refine ⟨0, wc', w', A', by omega, hA30, hcl, ?_, fB1, fB2, fB3, ⟨y6.2.1, by rw [b8 15 (by omega) (by omega), ez0 15 (by omega) (by omega)]; exact y6.2.2.1, fun i hi => ⟨?_, ?_⟩⟩, fun g d h => by rw [b7 g d (by omega), ez g d (by omega)]; exact fN1 g d h, fun d h => by rw [b7 8 d (by omega), ez 8 d (by omega)]; exact fN2 d h, fun i h => by rw [b8 i (by omega) (by omega), ez0 i (by omega) (by omega)]; exact fN3 i h, fun _ => ⟨D + 1, pth, by omega, y2, b2, fun j hj => ?_, ?_, ?_⟩⟩
      · rw [hmod, h_X10_places_36, b_X10_places_36, if_neg (by rw [y1]; exact nI_pos (by omega)), if_neg (nI_ne_m1 (by omega)), if_pos (show nI 0 = 0 from rfl), f_X10_connects, letw, wup_at, if_neg (by omega), y1, leti, letw, hwz, b1, Option.bind_some]; rfl
      · rw [b7 8 11 (by omega), ez 8 11 (by omega)]; exact (y6.2.2.2 i hi).1
      · by_cases hx : ∃ j, j ≤ D ∧ ow j = i
        · obtain ⟨j, j1, j2⟩ := hx
          have := (b3 j (by omega) j1).2
          rw [j2] at this
          rw [this, ← j2]; exact (how j j1).2.2
        · rw [b5 i (fun j _ j1 j2 => hx ⟨j, j1, j2⟩), ez 8 12 (by omega)]
          rcases (y6.2.2.2 i hi).2 with h | ⟨j, j1, j2⟩
          · exact h
          · exfalso
            have h1 := (how j (by omega)).2.1
            have h2 := (how j (by omega)).1
            rw [h1, nI_eq (by omega) (by omega)] at j2
            exact hx ⟨j, by omega, j2⟩
      · exact ⟨(y3 j (by omega) (by omega)).1, (y3 j (by omega) (by omega)).2.2.2.2.1, (b3 j (by omega) (by omega)).1⟩
      · rw [b7 8 1 (by omega), ez 8 1 (by omega), y4, e1X, m1]; rfl
      · rw [b7 8 1 (by omega), ez 8 1 (by omega)]; exact y5
