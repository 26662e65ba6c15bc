def Tc (d A : Nat) (wc wm : Wd) : Prop := A ≤ 30 ∧ wc 7 12 2 = nI A ∧ wm 8 0 15 = nI A ∧ ∀ i, i < A → wc 7 13 i = wm 8 11 i ∧ (wc 7 14 i = wm 8 12 i ∨ ∃ j, j < d ∧ wm 8 10 j = nI i)
def Sm (d : Nat) (w w' : Wd) : Prop := (∀ g c, g ≠ 8 → w' g c = w g c) ∧ (∀ c, (c = 2 ∨ c = 3 ∨ 13 ≤ c) → w' 8 c = w 8 c) ∧ (∀ i, i ≠ 5 → i ≠ 12 → i ≠ 15 → w' 8 0 i = w 8 0 i) ∧ (∀ e, e < d → ∀ c, (c = 5 ∨ c = 6 ∨ c = 8 ∨ c = 9 ∨ c = 10) → w' 8 c e = w 8 c e) ∧ ∀ j, j < 40 * d → w' 8 7 j = w 8 7 j
def Sk (d : Nat) (w w' : Wd) : Prop := (∀ g c, g ≠ 7 → w' g c = w g c) ∧ (∀ c, (c < 11 ∨ 16 ≤ c) → w' 7 c = w 7 c) ∧ (∀ i, i ≠ 2 → w' 7 11 i = w 7 11 i) ∧ ∀ e, e < d → w' 7 15 e = w 7 15 e
theorem Sm.refl (d : Nat) (w : Wd) : Sm d w w := ⟨fun _ _ _ => rfl, fun _ _ => rfl, fun _ _ _ _ => rfl, fun _ _ _ _ => rfl, fun _ _ => rfl⟩
theorem Sk.refl (d : Nat) (w : Wd) : Sk d w w := ⟨fun _ _ _ => rfl, fun _ _ => rfl, fun _ _ => rfl, fun _ _ => rfl⟩
theorem Sm.trans {d : Nat} {w w' w'' : Wd} (h : Sm d w w') (k : Sm d w' w'') : Sm d w w'' := ⟨fun g c x => (k.1 g c x).trans (h.1 g c x), fun c x => (k.2.1 c x).trans (h.2.1 c x), fun i a b c => (k.2.2.1 i a b c).trans (h.2.2.1 i a b c), fun e x c y => (k.2.2.2.1 e x c y).trans (h.2.2.2.1 e x c y), fun j x => (k.2.2.2.2 j x).trans (h.2.2.2.2 j x)⟩
theorem Sk.trans {d : Nat} {w w' w'' : Wd} (h : Sk d w w') (k : Sk d w' w'') : Sk d w w'' := ⟨fun g c x => (k.1 g c x).trans (h.1 g c x), fun c x => (k.2.1 c x).trans (h.2.1 c x), fun i a => (k.2.2.1 i a).trans (h.2.2.1 i a), fun e x => (k.2.2.2 e x).trans (h.2.2.2 e x)⟩
theorem Sm.mono {d d' : Nat} {w w' : Wd} (h : Sm d' w w') (hd : d ≤ d') : Sm d w w' := ⟨h.1, h.2.1, h.2.2.1, fun e x c y => h.2.2.2.1 e (by omega) c y, fun j x => h.2.2.2.2 j (by omega)⟩
theorem Sk.mono {d d' : Nat} {w w' : Wd} (h : Sk d' w w') (hd : d ≤ d') : Sk d w w' := ⟨h.1, h.2.1, h.2.2.1, fun e x => h.2.2.2 e (by omega)⟩
theorem Sm.of {d : Nat} {w w' : Wd} (h : Ar d w w') : Sm d w w' := ⟨h.1, fun c x => h.2.1 c (by omega), fun i a b _ => h.2.2.1 i a b, fun e x c y => by
  rcases y with y | y | y | y | y
  · exact h.2.2.2.1 e x c (by omega)
  · exact h.2.2.2.1 e x c (by omega)
  · exact h.2.2.2.1 e x c (by omega)
  · exact h.2.2.2.1 e x c (by omega)
  · rw [h.2.1 c (by omega)], h.2.2.2.2⟩
theorem Wc.keep {T n bz d : Nat} {N0 : Nat → Nat → Int32} {w w' : Wd} (h : Wc T n bz N0 w) (k : Sk d w w') : Wc T n bz N0 w' := by
  obtain ⟨h1, h2, h3, h4⟩ := h
  exact ⟨by rw [← h1]; exact funext fun c => k.1 0 c (by omega), (k.2.2.1 3 (by omega)).trans h2, (k.2.2.1 4 (by omega)).trans h3, (k.2.2.1 5 (by omega)).trans h4⟩
theorem Fr.keep {wm wm' : Wd} {d a K i : Nat} {mk : Option Nat} {ls : Nat → Nat} (h : Fr wm d a mk K ls i) (k : Sm (d + 1) wm wm') (hK : K ≤ 40) : Fr wm' d a mk K ls i := by
  obtain ⟨h1, h2, h3, h4, h5⟩ := h
  refine ⟨?_, ?_, ?_, ?_, fun j hj => ?_⟩
  · rw [k.2.2.2.1 d (by omega) 5 (by omega)]; exact h1
  · rw [k.2.2.2.1 d (by omega) 6 (by omega)]; exact h2
  · rw [k.2.2.2.1 d (by omega) 8 (by omega)]; exact h3
  · rw [k.2.2.2.1 d (by omega) 9 (by omega)]; exact h4
  · rw [k.2.2.2.2 _ (by omega)]; exact h5 j hj
theorem Mk.keep {d M : Nat} {wm wm' : Wd} (h : Mk d M wm) (k : ∀ e, e < d → wm' 8 5 e = wm 8 5 e) : Mk d M wm' := by
  refine ⟨h.1, h.2.1, fun a ha => (h.2.2 a ha).trans ⟨fun ⟨e, x, y⟩ => ⟨e, x, by rw [k e x]; exact y⟩, fun ⟨e, x, y⟩ => ⟨e, x, by rw [← k e x]; exact y⟩⟩⟩
theorem Wm.keep {t S R P M : Nat} {v0 : Nat → Int32} {wm wm' : Wd} (h : Wm t S R P M v0 wm) (k : wm' 8 1 = wm 8 1) : Wm t S R P M v0 wm' := by
  unfold Wm
  rw [k]
  exact h
def ocV (r : Nat) (v : Nat → Int32) : Nat → Int32 := if v (30 + 8 * r) = v (30 + 8 * r + 2) then v else upd v (30 + 8 * r + 7) (v (30 + 8 * r + 7) + nI 1)
def oc (pth : Nat → Nat) : Nat → Nat → (Nat → Int32) → (Nat → Int32)
  | 0, _, v => v
  | d + 1, i, v => oc pth d (i + 1) (ocV (pth i) v)
theorem oc_congr {p p' : Nat → Nat} : ∀ (d i : Nat) (v : Nat → Int32), (∀ j, i ≤ j → j < i + d → p' j = p j) → oc p' d i v = oc p d i v
  | 0, _, _, _ => rfl
  | d + 1, i, v, h => by rw [oc, oc, h i (by omega) (by omega), oc_congr d (i + 1) _ (fun j a b => h j (by omega) (by omega))]
def Con (t S R P d A D : Nat) (v : Nat → Int32) (wc wm : Wd) : Prop :=
  d ≤ D ∧ D < 6 ∧ wm 8 0 12 = nI D ∧ wc 7 11 2 = nI (D + 1) ∧ (∃ pth tj : Nat → Nat, (∀ j, d ≤ j → j ≤ D → pth j < R ∧ tj j < 40 ∧ wm 8 9 j = nI (tj j) ∧ wm 8 7 (40 * j + tj j) = nI (pth j) ∧ wc 7 15 j = nI (pth j) ∧ ∃ o, o < A ∧ wm 8 10 j = nI o ∧ wc 7 14 o = nI 0) ∧ wm 8 1 = oc pth (D + 1 - d) d v) ∧ Vd t (wm 8 1) S R P ∧ Tc (D + 1) A wc wm
def Ex : Nat → Nat
  | 0 => 0
  | x + 1 => 40 * Ex x + 4
def LoopOK (t S R P T n L Lim bz : Nat) (v0 : Nat → Int32) (N0 : Nat → Nat → Int32) (x d : Nat) : Prop :=
  ∀ (a M A i K : Nat) (mk : Option Nat) (ls : Nat → Nat) (y8 : Int32) (wc wm : Wd) (fu0 : Nat), d < Lim → a < S → okM S mk → i < K → Srt (mb (dn n L mk) a R (owv v0) (prv v0)) (cov v0 (bandN T)) ls K R → Wc T n bz N0 wc → Wm t S R P M v0 wm → Mk d M wm → M.testBit a = false → wm 8 0 12 = nI d → Fr wm d a mk K ls i → Tc d A wc wm → K - i < fu0 →
  ∃ c wc' wm' A' k, c ≤ 6 ∧ k ≤ (K - i) * Ex x ∧ h_X3_tryRoutes_45 0 (f_X3_arrive (3 + x)) fu0 wc (nI a) (nI M) (cM mk) (cP (mx (ft (dn n L mk) a (owv v0) (prv v0)) (prv v0) R)) (nI (ls i)) y8 (nI i) = some (nI c, wc') ∧ (∀ fu, h_X10_places_36 (k + fu + 1) wm (nI n) (-1) = h_X10_places_36 (fu + 1) wm' (nI n) (nI c)) ∧ Sk d wc wc' ∧ Sm d wm wm' ∧ A ≤ A' ∧ ((c ≠ 0 ∧ wm' 8 0 12 = nI d ∧ wm' 8 1 = wm 8 1 ∧ Tc d A' wc' wm') ∨ (c = 0 ∧ ∃ D, Con t S R P d A' D (wm 8 1) wc' wm'))
theorem nI_ne_m1 {c : Nat} (h : c < 2 ^ 31) : ¬ nI c = -1 := by
  rw [show (-1 : Int32) = - nI 1 from rfl, nI_neg h (by omega) (by omega)]; exact id
theorem nI_ne_m9 {c : Nat} (h : c < 2 ^ 31) : ¬ nI c = -9 := by
  rw [show (-9 : Int32) = - nI 9 from rfl, nI_neg h (by omega) (by omega)]; exact id
theorem nI_ne_0 {c : Nat} (h : c < 2 ^ 31) (h0 : c ≠ 0) : ¬ nI c = 0 := by
  rw [show (0 : Int32) = nI 0 from rfl, nI_eq h (by omega)]; exact h0
theorem atHand_spec {wm : Wd} {d i r : Nat} (hd : d < 8) (hi : i < 40) (ed : wm 8 0 12 = nI d) (e9 : wm 8 9 d = nI i) (e7 : wm 8 7 (40 * d + i) = nI r) : f_X10_atHand wm = some (nI r, wm) := by
  rw [f_X10_atHand, if_pos (by rw [ed]; exact ibT hd (by omega)), ed, nI_clamp (by omega), e9, show (40 * nI d + nI i : Int32) = nI (40 * d + i) from by rw [lit, nI_mul, nI_add], if_pos (ibT (by omega) (by omega)), nI_clamp (by omega), e7]
theorem settles_spec {wm : Wd} {d a K i c A0 cw : Nat} {mk : Option Nat} {ls : Nat → Nat} (hF : Fr wm d a mk K ls i) (ed : wm 8 0 12 = nI d) (hd : d < 8) (eo : wm 8 10 d = nI A0) (hA : A0 < 30) (ha : a < 8) (hcw : wm 8 1 (18 + a) = nI cw) (hcw2 : cw ≤ 62 ∧ cw % 2 = 0) (hc : c ≤ 6) (hi : i < K) (hK : K ≤ 40) : f_X10_settles wm (nI c) = if cw.testBit c = true ∧ i + 1 < K then some (-1, wup (wup wm 8 12 A0 (nI c)) 8 9 d (nI (i + 1))) else some (nI c, wup wm 8 12 A0 (nI c)) := by
  obtain ⟨f5, f6, f8, f9, f7⟩ := hF
  have hb := bit_0 cw hcw2.1 hcw2.2
  generalize hw1 : wup wm 8 12 A0 (nI c) = w1
  have g0 : w1 8 0 12 = nI d := by rw [← hw1, wup_at, if_neg (by omega)]; exact ed
  have g9 : w1 8 9 d = nI i := by rw [← hw1, wup_at, if_neg (by omega)]; exact f9
  have g8 : w1 8 8 d = nI K := by rw [← hw1, wup_at, if_neg (by omega)]; exact f8
  have g5 : w1 8 5 d = nI a := by rw [← hw1, wup_at, if_neg (by omega)]; exact f5
  have g1 : w1 8 1 (18 + a) = nI cw := by rw [← hw1, wup_at, if_neg (by omega)]; exact hcw
  have hib : ib (nI d) 8 = true := ibT hd (by omega)
  have e43 : ∀ z, j_X10_settles_43 w1 (nI c) z = if cw.testBit c = true then j_X10_settles_74 w1 (nI c) z 1 else j_X10_settles_74 w1 (nI c) z 0 := by
    intro z
    rw [j_X10_settles_43, if_pos (by rw [g0]; exact hib), g0, nI_clamp (by omega), g5, show (18 + nI a : Int32) = nI (18 + a) from nI_add 18 a, if_pos (ibT (by omega) (by omega)), nI_clamp (by omega), g1]
    by_cases hbt : cw.testBit c = true
    · rw [if_pos (by rw [mask_tst1 (by omega) (by omega)]; exact hbt), if_pos hbt]
    · rw [if_neg (by rw [mask_tst1 (by omega) (by omega)]; exact hbt), if_neg hbt]
  have e74 : ∀ z b, (z = (if i + 1 < K then 0 else 1 : Int32)) → (b = if cw.testBit c = true then (1 : Int32) else 0) → j_X10_settles_74 w1 (nI c) z b = if cw.testBit c = true ∧ i + 1 < K then some (-1, wup w1 8 9 d (nI (i + 1))) else some (nI c, w1) := by
    intro z b hz hb2
    rw [j_X10_settles_74]
    by_cases h0 : c = 0
    · rw [if_pos (by rw [h0]; rfl), if_neg (by rw [h0, hb.1]; exact fun h => Bool.noConfusion h.1)]
    · rw [if_neg (nI_ne_0 (by omega) h0)]
      by_cases h6 : c = 6
      · rw [if_pos (by rw [h6]; rfl), if_neg (by rw [h6, hb.2]; exact fun h => Bool.noConfusion h.1)]
      · rw [if_neg (by rw [show (6 : Int32) = nI 6 from rfl, nI_eq (by omega) (by omega)]; exact h6)]
        by_cases hbt : cw.testBit c = true
        · rw [if_pos hbt] at hb2
          rw [hb2, if_neg (by decide)]
          by_cases hl : i + 1 < K
          · rw [if_pos hl] at hz
            rw [hz, if_pos rfl, if_pos (c := cw.testBit c = true ∧ i + 1 < K) ⟨hbt, hl⟩, if_pos (by rw [g0]; exact hib), if_pos (by rw [g0]; exact hib), g0, nI_clamp (by omega), g9, letw, show (nI i + 1 : Int32) = nI (i + 1) from nI_add i 1]
          · rw [if_neg hl] at hz
            rw [hz, if_neg (by decide), if_neg (fun h => hl h.2)]
        · rw [if_neg hbt] at hb2
          rw [hb2, if_pos rfl, if_neg (fun h => hbt h.1)]
  rw [f_X10_settles, if_pos (by rw [ed]; exact hib), ed, nI_clamp (by omega), eo, if_pos (ibT (by omega) (by omega)), nI_clamp (by omega), letw, hw1, if_pos (by rw [g0]; exact hib), if_pos (by rw [g0]; exact hib), g0, nI_clamp (by omega), g9, g8, show (nI K - 1 : Int32) = nI (K - 1) from by rw [show (1 : Int32) = nI 1 from rfl, nI_sub (by omega)]]
  by_cases hl : i + 1 < K
  · rw [if_neg (by rw [nI_eq (by omega) (by omega)]; omega), e43]
    by_cases hbt : cw.testBit c = true
    · rw [if_pos hbt, e74 0 1 (by rw [if_pos hl]) (by rw [if_pos hbt])]
    · rw [if_neg hbt, e74 0 0 (by rw [if_pos hl]) (by rw [if_neg hbt])]
  · rw [if_pos (by congr 1; omega), e43]
    by_cases hbt : cw.testBit c = true
    · rw [if_pos hbt, e74 1 1 (by rw [if_neg hl]) (by rw [if_pos hbt])]
    · rw [if_neg hbt, e74 1 0 (by rw [if_neg hl]) (by rw [if_neg hbt])]
theorem leaves_spec {wm : Wd} {d i r : Nat} {x : Int32} (hd : d < 8) (hi : i < 40) (hr : r < 40) (ed : wm 8 0 12 = nI (d + 1)) (e9 : wm 8 9 d = nI i) (e7 : wm 8 7 (40 * d + i) = nI r) : f_X10_leaves wm x = some ((), wup (wup wm 8 0 12 (nI d)) 8 1 (30 + 8 * r + 7) (wm 8 1 (30 + 8 * r + 7) - nI 1)) := by
  have hat := atHand_spec (wm := wup wm 8 0 12 (nI d)) (d := d) (i := i) (r := r) hd hi (by rw [wup_at, if_pos ⟨rfl, rfl, rfl⟩]) (by rw [wup_at, if_neg (by omega)]; exact e9) (by rw [wup_at, if_neg (by omega)]; exact e7)
  rw [f_X10_leaves, ed, show (nI (d + 1) - 1 : Int32) = nI d from by rw [show (1 : Int32) = nI 1 from rfl, nI_sub (by omega)]; rfl, letw, if_neg (by rw [wup_at, if_pos ⟨rfl, rfl, rfl⟩]; exact nI_pos (by omega)), hat, Option.bind_some]
  dsimp only
  rw [show (30 + 8 * nI r + 7 : Int32) = nI (30 + 8 * r + 7) from by rw [lit, lit, lit, nI_mul, nI_add, nI_add], if_pos (ibT (by omega) (by omega)), if_pos (ibT (by omega) (by omega)), nI_clamp (by omega), letw, show (1 : Int32) = nI 1 from rfl, wup_at, if_neg (by omega)]
theorem places_try {wm : Wd} {d A : Nat} {y : Int32} (fu : Nat) (hd : d < 8) (ed : wm 8 0 12 = nI d) (hA : A < 30) (eA : wm 8 0 15 = nI A) : h_X10_places_36 (fu + 1) wm y (-1) = (f_X10_tries wm y).bind fun q => if q.1 = -1 then h_X10_places_36 fu q.2 y q.1 else (f_X10_settles q.2 q.1).bind fun q9 => h_X10_places_36 fu q9.2 y q9.1 := by
  rw [h_X10_places_36, b_X10_places_36, if_neg (by rw [ed]; exact nI_pos (by omega)), if_pos rfl, if_neg (by rw [eA, show (30 : Int32) = nI 30 from rfl, nI_eq (by omega) (by omega)]; omega), j_X10_places_62, if_pos rfl]
  rfl
theorem places_full {wm : Wd} {d : Nat} {y : Int32} (fu : Nat) (hd : d < 8) (ed : wm 8 0 12 = nI d) (eA : wm 8 0 15 = nI 30) : h_X10_places_36 (fu + 1) wm y (-1) = h_X10_places_36 (fu + 1) wm y (nI 6) := by
  rw [h_X10_places_36, b_X10_places_36, if_neg (by rw [ed]; exact nI_pos (by omega)), if_pos rfl, if_pos (by rw [eA]; rfl), j_X10_places_62, if_neg (by decide), j_X10_places_79, if_neg (by decide)]
  rw [b_X10_places_36, if_neg (by rw [ed]; exact nI_pos (by omega)), if_neg (by decide), if_neg (by decide)]
  rfl
theorem places_back {wm : Wd} {d c i r : Nat} {y : Int32} (fu : Nat) (hc : c ≤ 6) (hc0 : c ≠ 0) (hd : d < 7) (hi : i < 40) (hr : r < 40) (ed : wm 8 0 12 = nI (d + 1)) (e9 : wm 8 9 d = nI i) (e7 : wm 8 7 (40 * d + i) = nI r) : h_X10_places_36 (fu + 1) wm y (nI c) = (f_X10_settles (wup (wup wm 8 0 12 (nI d)) 8 1 (30 + 8 * r + 7) (wm 8 1 (30 + 8 * r + 7) - nI 1)) (nI c)).bind fun q => h_X10_places_36 fu q.2 y q.1 := by
  rw [h_X10_places_36, b_X10_places_36, if_neg (by rw [ed]; exact nI_pos (by omega)), if_neg (nI_ne_m1 (by omega)), if_neg (nI_ne_0 (by omega) hc0), leaves_spec (by omega) hi hr ed e9 e7, Option.bind_some]
  dsimp only
  rw [if_pos (by rw [wup_at, if_neg (by omega), wup_at, if_pos ⟨rfl, rfl, rfl⟩]; exact nI_pos' (by omega))]
