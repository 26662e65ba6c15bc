theorem cnt_clear {v : Nat → Int32} {p : Nat} (e : v (420 + 14 * p) = nI 1) : ∀ n, (n ≤ p → cnt (upd v (420 + 14 * p) (nI 0)) n = cnt v n) ∧ (p < n → cnt (upd v (420 + 14 * p) (nI 0)) n + 1 = cnt v n)
  | 0 => ⟨fun _ => rfl, fun h => by omega⟩
  | n + 1 => by
    have ih := cnt_clear e n
    have n01 : ¬ nI 0 = nI 1 := by decide
    constructor
    · intro h
      rw [cnt, cnt, ih.1 (by omega), upd_ne (by omega)]
    · intro h
      by_cases hp : n = p
      · subst hp
        rw [cnt, cnt, ih.1 (by omega), upd_eq, e, if_neg n01, if_pos rfl]
      · rw [cnt, cnt, upd_ne (by omega), ← ih.2 (by omega)]
        omega
theorem seL_Vu {S R P b : Nat} {t : Nat} {m : Int32} {rt : Nat → Nat} : ∀ (d i u : Nat) (s : Int32) (v : Nat → Int32), (∀ k, k < i + d → rt k < R) → Vu t u v S R P → Vu t (u + d) (seL m b rt d i s v).2 S R P
  | 0, _, _, _, _, _, h => h
  | d + 1, i, u, s, v, hk, h => by
    rw [seL]
    have := seL_Vu (b := b) (m := m) d (i + 1) (u + 1) (s + seD m b (rt i) v) (seV m b (rt i) v) (fun k hk' => hk k (by omega)) (seV_Vu (hk i (by omega)) h)
    rw [show u + (d + 1) = u + 1 + d from by omega]
    exact this
/-- a row's place p and its way: what the end of other routes leaves -/
theorem seV_cl {b r : Nat} {m : Int32} {v : Nat → Int32} {j : Nat} (hj : 350 ≤ j ∧ j < 570) (hr : r < 40) : seV m b r v j = v j := by
  rw [seV]
  split
  · rfl
  · rw [upd_ne (by omega), upd_ne (by omega)]
theorem seL_cl {b : Nat} {m : Int32} {rt : Nat → Nat} {j : Nat} (hj : 350 ≤ j ∧ j < 570) : ∀ (d i : Nat) (s : Int32) (v : Nat → Int32), (∀ k, k < i + d → rt k < 40) → (seL m b rt d i s v).2 j = v j
  | 0, _, _, _, _ => rfl
  | d + 1, i, s, v, hk => by
    rw [seL, seL_cl hj d (i + 1) _ _ (fun k hk' => hk k (by omega)), seV_cl hj (hk i (by omega))]
/-- the router's loop over the way -/
theorem cEnd {t S R P p n st len : Nat} {m : Int32} {rt : Nat → Nat} (hp : p < 10) (hn : 1 ≤ n ∧ n < 2 ^ 31) (hst : st ≤ 1000000) (hl : len ≤ 6) (hrt : ∀ k, k < len → rt k < R) (hR40 : R ≤ 40) : ∀ (d i u fu : Nat) (s : Int32) (w : Wd) (v : Nat → Int32), len - i = d → i ≤ len → d < fu → Vu t u v S R P → Cp (w 0) v S R P → w 0 14 p = nI n → w 0 16 p = nI len → (∀ k, k < len → w 0 17 (6 * p + k) = nI (rt k)) →
    ∃ wL, h_X4_settle_26 0 fu w (nI p) (nI st) m s (nI i) = (f_X0_remove 0 wL (nI p)).bind (fun q => some ((seL m (bandN st) rt d i s v).1, q.2)) ∧ (∀ g c, g ≠ 0 → wL g c = w g c) ∧ (∀ c i, c ≠ 2 → c ≠ 9 → wL 0 c i = w 0 c i) ∧ Cp (wL 0) (seL m (bandN st) rt d i s v).2 S R P := by
  intro d
  induction d with
  | zero =>
    intro i u fu s w v h1 h2 h3 hV hC e14 e16 e17
    obtain ⟨fu, rfl⟩ : ∃ z, fu = z + 1 := ⟨fu - 1, by omega⟩
    refine ⟨w, ?_, fun _ _ _ => rfl, fun _ _ _ _ => rfl, hC⟩
    rw [h_X4_settle_26, b_X4_settle_26]
    by_cases h6 : 6 ≤ i
    · rw [if_pos (by rw [lit, nI_leI (by omega) (by omega)]; exact h6), seL]
    · rw [if_neg (by rw [lit, nI_leI (by omega) (by omega)]; exact h6), cLen_T hp hn e14 e16, Option.bind_some]
      dsimp only
      rw [if_pos (by rw [nI_leI (by omega) (by omega)]; omega), seL]
  | succ d ih =>
    intro i u fu s w v h1 h2 h3 hV hC e14 e16 e17
    obtain ⟨fu, rfl⟩ : ∃ z, fu = z + 1 := ⟨fu - 1, by omega⟩
    obtain ⟨w', g1, g2, g3, g4⟩ := sStep (b := bandN st) (m := m) (bandN_lt st) (hrt i (by omega)) hV hC
    obtain ⟨wL, k1, k2, k3, k4⟩ := ih (i + 1) (u + 1) fu (s + seD m (bandN st) (rt i) v) w' (seV m (bandN st) (rt i) v) (by omega) (by omega) (by omega) (seV_Vu (hrt i (by omega)) hV) g4 (by rw [g3 _ _ (by omega) (by omega)]; exact e14) (by rw [g3 _ _ (by omega) (by omega)]; exact e16) (fun k hk => by rw [g3 _ _ (by omega) (by omega)]; exact e17 k hk)
    refine ⟨wL, ?_, fun g c hg => (k2 g c hg).trans (g2 g c hg), fun c j h2 h9 => (k3 c j h2 h9).trans (g3 c j h2 h9), k4⟩
    rw [h_X4_settle_26, b_X4_settle_26, if_neg (by rw [lit, nI_leI (by omega) (by omega)]; omega), cLen_T hp hn e14 e16, Option.bind_some]
    dsimp only
    rw [if_neg (by rw [nI_leI (by omega) (by omega)]; omega), cStep_T hp hn hl (by omega) e14 e16, Option.bind_some]
    dsimp only
    rw [e17 i (by omega), bandOf_c (by omega), Option.bind_some]
    dsimp only
    rw [g1, Option.bind_some]
    dsimp only
    rw [leti, nI_1, k1, seL]
/-- the model's loop over the way: the row becomes seL's -/
theorem mServes {w : Wd} {r o x : Nat} (hr : r < 40) (ho : o < 8) (hx : x < 8) (q8 : w 8 1 (30 + 8 * r) = nI o) (q10 : w 8 1 (30 + 8 * r + 2) = nI x) : f_X10_serves w (nI r) = some (if o = x then nI 1 else nI 0, w) := by
  rw [f_X10_serves, show (0 : Int32) = nI 0 from rfl, show (2 : Int32) = nI 2 from rfl, of_spec hr (by omega), Option.bind_some]
  dsimp only
  rw [of_spec hr (by omega), Option.bind_some]
  dsimp only
  rw [Nat.add_zero, q10]
  by_cases hox : o = x
  · rw [if_pos (by rw [q8, hox]), if_pos hox]; rfl
  · rw [if_neg (by rw [q8, nI_eq (by omega) (by omega)]; exact hox), if_neg hox]
theorem mStep {p len b i r o x S : Nat} {m s : Int32} {w : Wd} {rc : Wd → Int32 → Int32 → Int32 → Int32 → Option (Int32 × Wd)} (hp : p < 10) (hb : b < 3) (hl : len ≤ 6) (hi : i < len) (hr : r < 40) (hS8 : S ≤ 8) (q1 : o < S) (q3 : x < S) (q8 : w 8 1 (30 + 8 * r) = nI o) (q10 : w 8 1 (30 + 8 * r + 2) = nI x) (e3 : w 8 1 (420 + 14 * p + 3) = nI b) (e4 : w 8 1 (420 + 14 * p + 4) = nI len) (e5 : w 8 1 (420 + 14 * p + (5 + i)) = nI r) :
    b_X10_end_60 rc w (nI (420 + 14 * p)) m s (nI i) = rc (wr w 8 1 (seV m b r (w 8 1))) (nI (420 + 14 * p)) m (s + seD m b r (w 8 1)) (nI (i + 1)) := by
  have hsv := mServes (w := w) (r := r) hr (by omega) (by omega) q8 q10
  have hof0 := of_spec (w := w) (r := r) (k := 0) hr (by omega)
  have hof2 := of_spec (w := w) (r := r) (k := 2) hr (by omega)
  have hofb := of_spec (w := w) (r := r) (k := 3 + b) hr (by omega)
  rw [Nat.add_zero] at hof0
  rw [b_X10_end_60, show (nI (420 + 14 * p) + 4 : Int32) = nI (420 + 14 * p + 4) from nI_add _ 4, if_pos (ibT (by omega) (by omega)), nI_clamp (by omega), if_neg (by rw [e4, nI_leI (by omega) (by omega)]; omega), show (nI (420 + 14 * p) + 5 + nI i : Int32) = nI (420 + 14 * p + (5 + i)) from by rw [lit, nI_add, nI_add, Nat.add_assoc], if_pos (ibT (by omega) (by omega)), nI_clamp (by omega), e5, leti, show (nI (420 + 14 * p) + 3 : Int32) = nI (420 + 14 * p + 3) from nI_add _ 3, if_pos (ibT (by omega) (by omega)), nI_clamp (by omega), e3, f_X10_costOf, hsv, Option.bind_some]
  dsimp only
  have a7 : (30 + 8 * nI r + 7 : Int32) = nI (30 + 8 * r + 7) := by rw [lit, lit, lit, nI_mul, nI_add, nI_add]
  have ad : (570 + 8 * nI o + nI x : Int32) = nI (570 + 8 * o + x) := by rw [lit, lit, nI_mul, nI_add, nI_add]
  by_cases hox : o = x
  · have hs : w 8 1 (30 + 8 * r) = w 8 1 (30 + 8 * r + 2) := by rw [q8, q10, hox]
    rw [if_pos hox, if_neg (by decide), Option.bind_some]
    dsimp only
    rw [leti, show (0 : Int32) * m = 0 from Int32.zero_mul, show f_X10_of w (nI r) 0 = f_X10_of w (nI r) (nI 0) from rfl, hof0, Option.bind_some]
    dsimp only
    rw [show f_X10_of w (nI r) 2 = f_X10_of w (nI r) (nI 2) from rfl, hof2, Option.bind_some]
    dsimp only
    rw [q8, q10, ad, if_pos (ibT (by omega) (by omega)), if_pos (ibT (by omega) (by omega)), nI_clamp (by omega), show w 8 1 (570 + 8 * o + x) + 0 = w 8 1 (570 + 8 * o + x) from Int32.add_zero _, wup_self, letw, a7, if_pos (ibT (by omega) (by omega)), hsv, Option.bind_some]
    dsimp only
    rw [if_pos hox, if_neg (by decide), if_pos (ibT (by omega) (by omega)), nI_clamp (by omega), show w 8 1 (30 + 8 * r + 7) - 0 = w 8 1 (30 + 8 * r + 7) from Int32.sub_zero _, wup_self, letw, leti, nI_1, seV, if_pos hs, wr_self, seD, if_pos hs]
    rfl
  · have hs : ¬ w 8 1 (30 + 8 * r) = w 8 1 (30 + 8 * r + 2) := by rw [q8, q10, nI_eq (by omega) (by omega)]; exact hox
    rw [if_neg hox, if_pos (by decide), show (3 + nI b : Int32) = nI (3 + b) from nI_add 3 b, hofb, Option.bind_some]
    dsimp only
    rw [Option.bind_some]
    dsimp only
    rw [leti, show f_X10_of w (nI r) 0 = f_X10_of w (nI r) (nI 0) from rfl, hof0, Option.bind_some]
    dsimp only
    rw [show f_X10_of w (nI r) 2 = f_X10_of w (nI r) (nI 2) from rfl, hof2, Option.bind_some]
    dsimp only
    rw [q8, q10, ad, if_pos (ibT (by omega) (by omega)), if_pos (ibT (by omega) (by omega)), nI_clamp (by omega), letw]
    generalize hy : w 8 1 (570 + 8 * o + x) + w 8 1 (30 + 8 * r + (3 + b)) * m = y
    have hsv2 := mServes (w := wup w 8 1 (570 + 8 * o + x) y) (r := r) hr (show o < 8 by omega) (show x < 8 by omega) (by rw [wup_at, if_neg (by omega)]; exact q8) (by rw [wup_at, if_neg (by omega)]; exact q10)
    rw [a7, if_pos (ibT (by omega) (by omega)), hsv2, Option.bind_some]
    dsimp only
    rw [if_neg hox, if_pos (by decide), if_pos (ibT (by omega) (by omega)), nI_clamp (by omega), letw, leti, nI_1, seD, if_neg hs]
    congr 1
    apply wd_ext
    intro g c j
    rw [wup_at, wup_at, wup_at, wr_at]
    by_cases hg : g = 8 ∧ c = 1
    · obtain ⟨rfl, rfl⟩ := hg
      rw [if_pos (c := 8 = 8 ∧ 1 = 1) ⟨rfl, rfl⟩, seV, if_neg hs, q8, q10, nI_clamp (by omega), nI_clamp (by omega), hy]
      by_cases h7 : j = 30 + 8 * r + 7
      · rw [if_pos ⟨rfl, rfl, h7⟩, h7, upd_eq, if_neg (by omega)]; rfl
      · rw [if_neg (by omega), upd_ne h7]
        by_cases hd : j = 570 + 8 * o + x
        · rw [if_pos ⟨rfl, rfl, hd⟩, hd, upd_eq]
        · rw [if_neg (by omega), upd_ne hd]
    · rw [if_neg (by omega), if_neg (by omega), if_neg hg]
theorem mEnd {t S R P p len b : Nat} {m : Int32} {rt : Nat → Nat} (hp : p < 10) (hb : b < 3) (hl : len ≤ 6) (hrt : ∀ k, k < len → rt k < R) (hR40 : R ≤ 40) : ∀ (d i u fu : Nat) (s : Int32) (w : Wd), len - i = d → i ≤ len → d < fu → Vu t u (w 8 1) S R P → w 8 1 (420 + 14 * p + 3) = nI b → w 8 1 (420 + 14 * p + 4) = nI len → (∀ k, k < len → w 8 1 (420 + 14 * p + (5 + k)) = nI (rt k)) →
    h_X10_end_60 fu w (nI (420 + 14 * p)) m s (nI i) = some ((seL m b rt d i s (w 8 1)).1, wr w 8 1 (upd (upd (seL m b rt d i s (w 8 1)).2 (420 + 14 * p) (nI 0)) 5 ((seL m b rt d i s (w 8 1)).2 5 - nI 1))) := by
  intro d
  induction d with
  | zero =>
    intro i u fu s w h1 h2 h3 hV e3 e4 e5
    obtain ⟨fu, rfl⟩ : ∃ z, fu = z + 1 := ⟨fu - 1, by omega⟩
    rw [h_X10_end_60, b_X10_end_60, lit, nI_add, if_pos (ibT (by omega) (by omega)), nI_clamp (by omega), if_pos (by rw [e4, nI_leI (by omega) (by omega)]; omega), if_pos (ibT (by omega) (by omega)), nI_clamp (by omega), letw, if_pos (show ib 5 640 = true from rfl), if_pos (show ib 5 640 = true from rfl), show Int32.toNatClampNeg 5 = 5 from rfl, letw, seL]
    congr 2
    apply wd_ext
    intro g c j
    rw [wup_at, wup_at, wup_at, wr_at]
    by_cases hg : g = 8 ∧ c = 1
    · obtain ⟨rfl, rfl⟩ := hg
      rw [if_pos (c := 8 = 8 ∧ 1 = 1) ⟨rfl, rfl⟩]
      by_cases h5 : j = 5
      · subst h5
        rw [if_pos (c := 8 = 8 ∧ 1 = 1 ∧ 5 = 5) ⟨rfl, rfl, rfl⟩, upd_eq, if_neg (by omega)]; rfl
      · rw [if_neg (by omega), upd_ne h5]
        by_cases h4 : j = 420 + 14 * p
        · subst h4
          rw [if_pos ⟨rfl, rfl, rfl⟩, upd_eq]; rfl
        · rw [if_neg (by omega), upd_ne h4]
    · rw [if_neg (by omega), if_neg (by omega), if_neg hg]
  | succ d ih =>
    intro i u fu s w h1 h2 h3 hV e3 e4 e5
    obtain ⟨fu, rfl⟩ : ∃ z, fu = z + 1 := ⟨fu - 1, by omega⟩
    have hri := hrt i (by omega)
    have hS8 : S ≤ 8 := hV.1.1
    obtain ⟨o, pp, x, l, k, c, q1, q2, q3, q4, q5, q6, q7, q8, q9, q10, q11, q12, q13⟩ := hV.2.2.2.2.2.2.1 (rt i) hri
    have hVn := seV_Vu (b := b) (m := m) hri hV
    have hsv := mServes (w := w) (r := rt i) (by omega) (by omega) (by omega) q8 q10
    have key : ∀ wn : Wd, wn = wr w 8 1 (seV m b (rt i) (w 8 1)) → h_X10_end_60 fu wn (nI (420 + 14 * p)) m (s + seD m b (rt i) (w 8 1)) (nI (i + 1)) = some ((seL m b rt (d + 1) i s (w 8 1)).1, wr w 8 1 (upd (upd (seL m b rt (d + 1) i s (w 8 1)).2 (420 + 14 * p) (nI 0)) 5 ((seL m b rt (d + 1) i s (w 8 1)).2 5 - nI 1))) := by
      intro wn hwn
      have ev : wn 8 1 = seV m b (rt i) (w 8 1) := by rw [hwn, wr_at, if_pos ⟨rfl, rfl⟩]
      have := ih (i + 1) (u + 1) fu (s + seD m b (rt i) (w 8 1)) wn (by omega) (by omega) (by omega) (by rw [ev]; exact hVn) (by rw [ev, seV_cl (by omega) (by omega)]; exact e3) (by rw [ev, seV_cl (by omega) (by omega)]; exact e4) (fun k hk => by rw [ev, seV_cl (by omega) (by omega)]; exact e5 k hk)
      rw [this, ev, seL, hwn, wr_wr]
    rw [h_X10_end_60, mStep hp hb hl (by omega) (by omega) hS8 q1 q3 q8 q10 e3 e4 (e5 i (by omega))]
    exact key _ rfl
