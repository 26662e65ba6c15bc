theorem wup_self (w : Wd) (g c i : Nat) : wup w g c i (w g c i) = w := by
  apply wd_ext
  intro g' c' i'
  rw [wup_at]
  split
  · rename_i h; rw [h.1, h.2.1, h.2.2]
  · rfl
/-- what the end of a call does to a row, for one route of its way -/
def seV (m : Int32) (b r : Nat) (v : Nat → Int32) : Nat → Int32 :=
  if v (30 + 8 * r) = v (30 + 8 * r + 2) then v else upd (upd v (570 + 8 * (v (30 + 8 * r)).toNatClampNeg + (v (30 + 8 * r + 2)).toNatClampNeg) (v (570 + 8 * (v (30 + 8 * r)).toNatClampNeg + (v (30 + 8 * r + 2)).toNatClampNeg) + v (30 + 8 * r + (3 + b)) * m)) (30 + 8 * r + 7) (v (30 + 8 * r + 7) - nI 1)
def seD (m : Int32) (b r : Nat) (v : Nat → Int32) : Int32 := if v (30 + 8 * r) = v (30 + 8 * r + 2) then nI 0 else v (30 + 8 * r + (3 + b)) * m
def seL (m : Int32) (b : Nat) (rt : Nat → Nat) : Nat → Nat → Int32 → (Nat → Int32) → Int32 × (Nat → Int32)
  | 0, _, s, v => (s, v)
  | d + 1, i, s, v => seL m b rt d (i + 1) (s + seD m b (rt i) v) (seV m b (rt i) v)
theorem ofInt_sub (k : Int) : Int32.ofInt k - nI 1 = Int32.ofInt (k - 1) := by
  rw [show nI 1 = Int32.ofInt 1 from rfl, ← Int32.ofInt_sub]
theorem rt_data {t S R P r : Nat} {v : Nat → Int32} (hV : Vd t v S R P) (hr : r < R) : ∃ (o p x l : Nat) (k : Int) (c : Nat → Nat), o < S ∧ p ≤ 999999999 ∧ x < S ∧ l ≤ 20 ∧ -(6 * t : Int) ≤ k ∧ k ≤ l ∧ (∀ b, b < 3 → c b ≤ 1000) ∧ v (30 + 8 * r) = nI o ∧ v (30 + 8 * r + 1) = nI p ∧ v (30 + 8 * r + 2) = nI x ∧ (∀ b, b < 3 → v (30 + 8 * r + (3 + b)) = nI (c b)) ∧ v (30 + 8 * r + 6) = nI l ∧ v (30 + 8 * r + 7) = Int32.ofInt k := hV.2.2.2.2.2.2.1 r hr
/-- the row with free lower bounds of the occupied lines: u more than t -/
def Vu (t u : Nat) (v : Nat → Int32) (S R P : Nat) : Prop :=
  (S ≤ 8 ∧ R ≤ 40 ∧ P ≤ 30 ∧ v 0 = nI S ∧ v 1 = nI R ∧ v 2 = nI P) ∧ (∃ L, 1 ≤ L ∧ L ≤ 6 ∧ v 3 = nI L) ∧ (∃ T, T ≤ 1000000 ∧ v 4 = nI T) ∧ v 5 = nI (cnt v 10) ∧
  (∀ s, s < S → v (10 + s) = nI 0 ∨ v (10 + s) = nI 1) ∧ (∀ s, s < S → ∃ c, c ≤ 62 ∧ c % 2 = 0 ∧ v (18 + s) = nI c) ∧
  (∀ r, r < R → ∃ (o p x l : Nat) (k : Int) (c : Nat → Nat), o < S ∧ p ≤ 999999999 ∧ x < S ∧ l ≤ 20 ∧ -(6 * t + u : Int) ≤ k ∧ k ≤ l ∧ (∀ b, b < 3 → c b ≤ 1000) ∧ v (30 + 8 * r) = nI o ∧ v (30 + 8 * r + 1) = nI p ∧ v (30 + 8 * r + 2) = nI x ∧ (∀ b, b < 3 → v (30 + 8 * r + (3 + b)) = nI (c b)) ∧ v (30 + 8 * r + 6) = nI l ∧ v (30 + 8 * r + 7) = Int32.ofInt k) ∧ (∀ k, k < P → PtOK S (fun j => v (350 + 2 * k + j))) ∧ (∀ p, p < 10 → ClOK R (fun j => v (420 + 14 * p + j)))
theorem Vu.of {t S R P : Nat} {v : Nat → Int32} (H : Vd t v S R P) : Vu t 0 v S R P := by
  obtain ⟨a, b1, b2, b3, b4, b5, b6, b7, b8⟩ := H
  refine ⟨a, b1, b2, b3, b4, b5, fun r hr => ?_, b7, b8⟩
  obtain ⟨o, p, x, l, k, c, q1, q2, q3, q4, q5, q6⟩ := b6 r hr
  exact ⟨o, p, x, l, k, c, q1, q2, q3, q4, by omega, q6⟩
theorem Vu.to {t u S R P : Nat} {v : Nat → Int32} (hu : u ≤ 6) (H : Vu t u v S R P) : Vd (t + 1) v S R P := by
  obtain ⟨a, b1, b2, b3, b4, b5, b6, b7, b8⟩ := H
  refine ⟨a, b1, b2, b3, b4, b5, fun r hr => ?_, b7, b8⟩
  obtain ⟨o, p, x, l, k, c, q1, q2, q3, q4, q5, q6⟩ := b6 r hr
  exact ⟨o, p, x, l, k, c, q1, q2, q3, q4, by omega, q6⟩
/-- one route: the row stays sound -/
theorem seV_Vu {t u S R P b r : Nat} {m : Int32} {v : Nat → Int32} (hr : r < R) (hV : Vu t u v S R P) : Vu t (u + 1) (seV m b r v) S R P := by
  obtain ⟨⟨a1, a2, a3, a4, a5, a6⟩, b1, b2, b3, b4, b5, b6, b7, b8⟩ := hV
  obtain ⟨o, p, x, l, k, c, q1, q2, q3, q4, q5, q6, q7, q8, q9, q10, q11, q12, q13⟩ := b6 r hr
  by_cases hs : v (30 + 8 * r) = v (30 + 8 * r + 2)
  · rw [seV, if_pos hs]
    refine ⟨⟨a1, a2, a3, a4, a5, a6⟩, b1, b2, b3, b4, b5, fun r' hr' => ?_, b7, b8⟩
    obtain ⟨o, p, x, l, k, c, z1, z2, z3, z4, z5, z6⟩ := b6 r' hr'
    exact ⟨o, p, x, l, k, c, z1, z2, z3, z4, by omega, z6⟩
  · rw [seV, if_neg hs, q8, q10, nI_clamp (by omega), nI_clamp (by omega)]
    generalize hy : v (570 + 8 * o + x) + v (30 + 8 * r + (3 + b)) * m = y
    have vne : ∀ j, j < 570 → j ≠ 30 + 8 * r + 7 → upd (upd v (570 + 8 * o + x) y) (30 + 8 * r + 7) (v (30 + 8 * r + 7) - nI 1) j = v j := fun j h1 h2 => by rw [upd_ne h2, upd_ne (by omega)]
    refine ⟨⟨a1, a2, a3, by rw [vne _ (by omega) (by omega)]; exact a4, by rw [vne _ (by omega) (by omega)]; exact a5, by rw [vne _ (by omega) (by omega)]; exact a6⟩, by rw [vne _ (by omega) (by omega)]; exact b1, by rw [vne _ (by omega) (by omega)]; exact b2, ?_, ?_, ?_, ?_, ptA a3 (Nat.le_refl _) (fun j h1 h2 => vne _ (by omega) (by omega)) b7, clA (Nat.le_refl _) (fun j h1 h2 => vne _ (by omega) (by omega)) b8⟩
    · rw [vne _ (by omega) (by omega), cntA (fun j h1 h2 => vne _ (by omega) (by omega)) 10 (by omega)]; exact b3
    · intro s hs; rw [vne _ (by omega) (by omega)]; exact b4 s hs
    · intro s hs; rw [vne _ (by omega) (by omega)]; exact b5 s hs
    · intro r' hr'
      by_cases hx : r' = r
      · subst hx
        refine ⟨o, p, x, l, k - 1, c, q1, q2, q3, q4, by omega, by omega, q7, ?_, ?_, ?_, ?_, ?_, ?_⟩
        · rw [vne _ (by omega) (by omega)]; exact q8
        · rw [vne _ (by omega) (by omega)]; exact q9
        · rw [vne _ (by omega) (by omega)]; exact q10
        · intro b' hb'; rw [vne _ (by omega) (by omega)]; exact q11 b' hb'
        · rw [vne _ (by omega) (by omega)]; exact q12
        · rw [upd_eq, q13, ofInt_sub]
      · obtain ⟨o', p', x', l', k', c', z1, z2, z3, z4, z5, z6, z7, z8, z9, z10, z11, z12, z13⟩ := b6 r' hr'
        refine ⟨o', p', x', l', k', c', z1, z2, z3, z4, by omega, z6, z7, ?_, ?_, ?_, ?_, ?_, ?_⟩
        · rw [vne _ (by omega) (by omega)]; exact z8
        · rw [vne _ (by omega) (by omega)]; exact z9
        · rw [vne _ (by omega) (by omega)]; exact z10
        · intro b' hb'; rw [vne _ (by omega) (by omega)]; exact z11 b' hb'
        · rw [vne _ (by omega) (by omega)]; exact z12
        · rw [vne _ (by omega) (by omega)]; exact z13
/-- one route: the router's step, over a row v that the network is a copy of -/
theorem sStep {t u S R P b r : Nat} {m : Int32} {w : Wd} {v : Nat → Int32} (hb : b < 3) (hr : r < R) (hV : Vu t u v S R P) (hC : Cp (w 0) v S R P) : ∃ w', f_X4_settleStep 0 w (nI r) (nI b) m = some (seD m b r v, w') ∧ (∀ g c, g ≠ 0 → w' g c = w g c) ∧ (∀ c i, c ≠ 2 → c ≠ 9 → w' 0 c i = w 0 c i) ∧ Cp (w' 0) (seV m b r v) S R P := by
  obtain ⟨⟨a1, a2, a3, a4, a5, a6⟩, b1, b2, b3, b4, b5, b6, b7, b8⟩ := hV
  obtain ⟨o, p, x, l, k, c, q1, q2, q3, q4, q5, q6, q7, q8, q9, q10, q11, q12, q13⟩ := b6 r hr
  have hC' := hC
  obtain ⟨⟨d1, d2, d3, d4, d5, d6⟩, ll, e1, e2, e3, e4, e5⟩ := hC
  have eR : w 0 3 6 = nI R := d2.trans a5
  have eS : w 0 0 5 = nI S := d1.trans a4
  obtain ⟨z1, z2, z3, z4, z5, z6⟩ := e3 r hr
  have hi : ib (nI r) 40 = true := ibT (by omega) (by omega)
  have ht : (nI r).toNatClampNeg = r := nI_clamp (by omega)
  have w4 : w 0 4 r = nI o := z1.trans q8
  have w6 : w 0 6 r = nI x := z3.trans q10
  have hsv : f_X6_serves 0 w (nI r) = some (if o = x then nI 1 else nI 0, w) := by
    rw [f_X6_serves, hasRt_T a2 eR hr, if_neg (by decide), if_pos hi, if_pos hi, ht]
    by_cases hox : o = x
    · rw [if_pos (by rw [w4, w6, hox]), if_pos hox]; rfl
    · rw [if_neg (by rw [w4, w6, nI_eq (by omega) (by omega)]; exact hox), if_neg hox]; rfl
  by_cases hox : o = x
  · refine ⟨w, ?_, fun _ _ _ => rfl, fun _ _ _ _ => rfl, ?_⟩
    · rw [f_X4_settleStep, hsv, Option.bind_some]
      dsimp only
      rw [if_pos hox, if_neg (by decide), seD, if_pos (by rw [q8, q10, hox])]; rfl
    · rw [seV, if_pos (by rw [q8, q10, hox])]; exact hC'
  · have hne : ¬ v (30 + 8 * r) = v (30 + 8 * r + 2) := by rw [q8, q10, nI_eq (by omega) (by omega)]; exact hox
    have hrel : f_X6_release 0 w (nI r) = some ((), wup w 0 9 r (w 0 9 r - nI 1)) := by
      rw [f_X6_release, hasRt_T a2 eR hr, if_neg (by decide), hsv, Option.bind_some]
      dsimp only
      rw [if_neg hox, if_pos (by decide), if_pos hi, if_pos hi, ht, letw, lit]
    generalize hw1 : wup w 0 9 r (w 0 9 r - nI 1) = w1 at hrel
    have f1 : ∀ g c, g ≠ 0 → w1 g c = w g c := fun g c hg => by rw [← hw1, wup_row, if_neg (by omega)]
    have f2 : ∀ c i, c ≠ 9 → w1 0 c i = w 0 c i := fun c i hc => by rw [← hw1, wup_at, if_neg (by omega)]
    have eR1 : w1 0 3 6 = nI R := by rw [f2 3 6 (by omega)]; exact eR
    have eS1 : w1 0 0 5 = nI S := by rw [f2 0 5 (by omega)]; exact eS
    have hso : f_X6_switchOf 0 w1 (nI r) = some (nI o, w1) := by
      rw [f_X6_switchOf, hasRt_T a2 eR1 hr, if_neg (by decide), if_pos hi, ht, f2 4 r (by omega), w4]
    have hnx : f_X6_nextOf 0 w1 (nI r) = some (nI x, w1) := by
      rw [f_X6_nextOf, hasRt_T a2 eR1 hr, if_neg (by decide), if_pos hi, ht, f2 6 r (by omega), w6]
    have had : ∀ y, f_X4_addDebt 0 w1 (nI o) (nI x) y = some ((), wup w1 0 2 (8 * o + x) (w1 0 2 (8 * o + x) + y)) := by
      intro y
      rw [f_X4_addDebt, hasSw_T a1 eS1 q1, hasSw_T a1 eS1 q3, if_neg (by decide), if_neg (by decide), lit, nI_mul, nI_add, if_pos (ibT (by omega) (by omega)), if_pos (ibT (by omega) (by omega)), nI_clamp (by omega), show o * 8 + x = 8 * o + x from by omega, letw]
    refine ⟨wup w1 0 2 (8 * o + x) (w1 0 2 (8 * o + x) + v (30 + 8 * r + (3 + b)) * m), ?_, ?_, ?_, ?_⟩
    · rw [f_X4_settleStep, hsv, Option.bind_some]
      dsimp only
      rw [if_neg hox, if_pos (by decide), costOf_spec (by omega) hb, Option.bind_some]
      dsimp only
      rw [leti, hrel, Option.bind_some]
      dsimp only
      rw [hso, Option.bind_some]
      dsimp only
      rw [hnx, Option.bind_some]
      dsimp only
      rw [had, Option.bind_some, z4 b hb, seD, if_neg hne]
    · intro g c hg
      rw [wup_row, if_neg (by omega), f1 g c hg]
    · intro c i h2 h9
      rw [wup_at, if_neg (by omega), f2 c i h9]
    · have eN : ∀ c i, wup w1 0 2 (8 * o + x) (w1 0 2 (8 * o + x) + v (30 + 8 * r + (3 + b)) * m) 0 c i = if c = 2 ∧ i = 8 * o + x then w 0 2 (8 * o + x) + v (30 + 8 * r + (3 + b)) * m else if c = 9 ∧ i = r then w 0 9 r - nI 1 else w 0 c i := by
        intro c i
        rw [wup_at, f2 2 _ (by omega), ← hw1, wup_at]
        simp
      rw [seV, if_neg hne, q8, q10, nI_clamp (by omega), nI_clamp (by omega)]
      generalize hy : v (570 + 8 * o + x) + v (30 + 8 * r + (3 + b)) * m = y
      have vne : ∀ j, j < 570 → j ≠ 30 + 8 * r + 7 → upd (upd v (570 + 8 * o + x) y) (30 + 8 * r + 7) (v (30 + 8 * r + 7) - nI 1) j = v j := fun j h1 h2 => by rw [upd_ne h2, upd_ne (by omega)]
      refine ⟨⟨?_, ?_, ?_, ?_, ?_, ?_⟩, cLA ?_ (fun s hs => vne _ (by omega) (by omega)) ll, ?_, ?_, ?_, cPA a3 (fun c i h1 h2 => ?_) (fun j h1 h2 => vne _ (by omega) (by omega)) e4, cCA (fun c i h1 h2 => ?_) (fun j h1 h2 => vne _ (by omega) (by omega)) e5⟩
      · rw [eN, if_neg (by omega), if_neg (by omega), vne _ (by omega) (by omega)]; exact d1
      · rw [eN, if_neg (by omega), if_neg (by omega), vne _ (by omega) (by omega)]; exact d2
      · rw [eN, if_neg (by omega), if_neg (by omega), vne _ (by omega) (by omega)]; exact d3
      · rw [eN, if_neg (by omega), if_neg (by omega), vne _ (by omega) (by omega)]; exact d4
      · rw [eN, if_neg (by omega), if_neg (by omega), vne _ (by omega) (by omega)]; exact d5
      · rw [eN, if_neg (by omega), if_neg (by omega), vne _ (by omega) (by omega)]; exact d6
      · rw [eN, if_neg (by omega), if_neg (by omega)]
      · intro s hs; rw [eN, if_neg (by omega), if_neg (by omega), vne _ (by omega) (by omega)]; exact e1 s hs
      · intro j hj
        by_cases hjx : j = 8 * o + x
        · subst hjx
          rw [eN, if_pos (by omega), upd_ne (by omega), show 570 + (8 * o + x) = 570 + 8 * o + x from by omega, upd_eq, ← hy, e2 (8 * o + x) hj, show 570 + (8 * o + x) = 570 + 8 * o + x from by omega]
        · rw [eN, if_neg (by omega), if_neg (by omega), upd_ne (by omega), upd_ne (by omega)]; exact e2 j hj
      · intro r' hr'
        obtain ⟨y1, y2, y3, y4, y5, y6⟩ := e3 r' hr'
        refine ⟨?_, ?_, ?_, fun j hj => ?_, ?_, ?_⟩
        · rw [eN, if_neg (by omega), if_neg (by omega), vne _ (by omega) (by omega)]; exact y1
        · rw [eN, if_neg (by omega), if_neg (by omega), vne _ (by omega) (by omega)]; exact y2
        · rw [eN, if_neg (by omega), if_neg (by omega), vne _ (by omega) (by omega)]; exact y3
        · rw [eN, if_neg (by omega), if_neg (by omega), vne _ (by omega) (by omega)]; exact y4 j hj
        · rw [eN, if_neg (by omega), if_neg (by omega), vne _ (by omega) (by omega)]; exact y5
        · by_cases hx : r' = r
          · subst hx
            rw [eN, if_neg (by omega), if_pos (by omega), upd_eq, y6]
          · rw [eN, if_neg (by omega), if_neg (by omega), vne _ (by omega) (by omega)]; exact y6
      · rw [eN, if_neg (by omega), if_neg (by omega)]
      · rw [eN, if_neg (by omega), if_neg (by omega)]
