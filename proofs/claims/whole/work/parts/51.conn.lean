theorem oc_snoc {pth : Nat → Nat} : ∀ (d i : Nat) (v : Nat → Int32), oc pth (d + 1) i v = ocV (pth (i + d)) (oc pth d i v)
  | 0, i, v => rfl
  | d + 1, i, v => by
    rw [oc, oc_snoc d (i + 1) (ocV (pth i) v), show i + 1 + d = i + (d + 1) from by omega]
    rfl
theorem ocV_low {r j : Nat} {v : Nat → Int32} (hr : r < 40) (hj : ∀ r', r' < 40 → j ≠ 30 + 8 * r' + 7) : ocV r v j = v j := by
  rw [ocV]
  split
  · rfl
  · exact upd_ne (hj r hr)
theorem oc_low {pth : Nat → Nat} {j : Nat} (hj : ∀ r', r' < 40 → j ≠ 30 + 8 * r' + 7) : ∀ (d i : Nat) (v : Nat → Int32), (∀ k, k < i + d → pth k < 40) → oc pth d i v j = v j
  | 0, _, _, _ => rfl
  | d + 1, i, v, h => by rw [oc, oc_low hj d (i + 1) _ (fun k hk => h k (by omega)), ocV_low (h i (by omega)) hj]
def CN (N0 N' : Nat → Nat → Int32) (v : Nat → Int32) (p n T j R : Nat) (pth : Nat → Nat) : Prop :=
  (∀ c i, (c ≤ 8 ∨ c = 10 ∨ c = 11 ∨ c = 12) → N' c i = N0 c i) ∧ N' 13 4 = N0 13 4 + nI 1 ∧ (∀ q, q ≠ p → N' 14 q = N0 14 q ∧ N' 15 q = N0 15 q ∧ N' 16 q = N0 16 q ∧ ∀ k, k < 6 → N' 17 (6 * q + k) = N0 17 (6 * q + k)) ∧ N' 14 p = nI n ∧ N' 15 p = nI T ∧ N' 16 p = nI j ∧ (∀ k, k < j → N' 17 (6 * p + k) = nI (pth k)) ∧ ∀ r, r < R → N' 9 r = v (30 + 8 * r + 7)
theorem conn_loop {t S R P p n T len : Nat} {N0 : Nat → Nat → Int32} {v0 : Nat → Int32} {pth : Nat → Nat} (hV : Vd t v0 S R P) (hC : Cp N0 v0 S R P) (hp : p < 10) (hn : 1 ≤ n ∧ n < 2 ^ 31) (hl : len ≤ 6) (hpth : ∀ k, k < len → pth k < R) : ∀ (m j fu : Nat) (w : Wd), len - j = m → j ≤ len → m < fu → w 7 11 2 = nI len → (∀ k, k < len → w 7 15 k = nI (pth k)) → CN N0 (w 0) (oc pth j 0 v0) p n T j R pth →
    ∃ w', h_X4_connect_18 0 fu w (nI p) (nI j) = some ((), w') ∧ (∀ g c, g ≠ 0 → w' g c = w g c) ∧ CN N0 (w' 0) (oc pth len 0 v0) p n T len R pth := by
  have hR := hV.1.2.1
  have hS := hV.1.1
  intro m
  induction m with
  | zero =>
    intro j fu w h1 h2 h3 e2 e15 hN
    obtain ⟨fu, rfl⟩ : ∃ z, fu = z + 1 := ⟨fu - 1, by omega⟩
    have hj : j = len := by omega
    subst hj
    refine ⟨w, ?_, fun _ _ _ => rfl, hN⟩
    rw [h_X4_connect_18, b_X4_connect_18, p_X3_length]
    split
    · rfl
    · rw [if_pos (by rw [e2, nI_leI (by omega) (by omega)]; omega)]
  | succ m ih =>
    intro j fu w h1 h2 h3 e2 e15 hN
    obtain ⟨fu, rfl⟩ : ∃ z, fu = z + 1 := ⟨fu - 1, by omega⟩
    obtain ⟨n1, n2, n3, n4, n5, n6, n7, n8⟩ := id hN
    have hr := hpth j (by omega)
    obtain ⟨q1, q2, q3, q4, q5, q6, q7, q8⟩ := rtv (b := 0) hV (by omega) hr
    obtain ⟨y1, y2, y3, y4, y5, y6⟩ := hC.2.2.2.2.1 (pth j) hr
    have hst : f_X3_step w (nI j) = some (nI (pth j), w) := by
      rw [f_X3_step, if_neg (nI_pos (by omega)), if_neg (by rw [e2, nI_leI (by omega) (by omega)]; omega), if_neg (by rw [lit, nI_leI (by omega) (by omega)]; omega), if_pos (ibT (by omega) (by omega)), nI_clamp (by omega), e15 j (by omega)]
    generalize hw3 : wup (wup w 0 17 (6 * p + j) (nI (pth j))) 0 16 p (nI (j + 1)) = w3
    have had : f_X0_addStep 0 w (nI p) (nI (pth j)) = some ((), w3) := by
      have ei : (nI p * 6 + nI j : Int32) = nI (6 * p + j) := by rw [lit, nI_mul, nI_add]; congr 1; omega
      rw [f_X0_addStep, cHas_T hp hn n4, Option.bind_some]
      dsimp only
      rw [if_neg (by decide), if_pos (ibT hp (by omega)), nI_clamp (by omega), if_neg (by rw [n6, in_same, show (0 : Int32) = nI 0 from rfl, show (5 : Int32) = nI 5 from rfl, in_T (by omega) (by omega) (by omega)]; decide), if_pos (ibT hp (by omega)), if_pos (by rw [n6, ei]; exact ibT (by omega) (by omega)), n6, ei, nI_clamp (by omega), letw, if_pos (ibT hp (by omega)), if_pos (ibT hp (by omega)), wup_at, if_neg (by omega), n6, letw, show (nI j + 1 : Int32) = nI (j + 1) from nI_add j 1, hw3]
    have a0 : ∀ g c, g ≠ 0 → w3 g c = w g c := fun g c h => by rw [← hw3, wup_row, if_neg (by omega), wup_row, if_neg (by omega)]
    have a1 : ∀ c i, c ≠ 16 → c ≠ 17 → w3 0 c i = w 0 c i := fun c i h1 h2 => by rw [← hw3, wup_at, if_neg (by omega), wup_at, if_neg (by omega)]
    have eR : w3 0 3 6 = nI R := by rw [a1 3 6 (by omega) (by omega), n1 3 6 (by omega)]; exact hC.1.2.1.trans hV.1.2.2.2.2.1
    have e4 : w3 0 4 (pth j) = nI (owv v0 (pth j)) := by rw [a1 _ _ (by omega) (by omega), n1 _ _ (by omega), y1, q5]
    have e6 : w3 0 6 (pth j) = nI (nxv v0 (pth j)) := by rw [a1 _ _ (by omega) (by omega), n1 _ _ (by omega), y3, q7]
    have hsv : f_X6_serves 0 w3 (nI (pth j)) = some (if owv v0 (pth j) = nxv v0 (pth j) then nI 1 else nI 0, w3) := by
      rw [f_X6_serves, hasRt_T hR eR hr, if_neg (by decide), if_pos (ibT (by omega) (by omega)), if_pos (ibT (by omega) (by omega)), nI_clamp (by omega), e4, e6]
      by_cases h : owv v0 (pth j) = nxv v0 (pth j)
      · rw [if_pos (by rw [h]), if_pos h]; rfl
      · rw [if_neg (by rw [nI_eq (by omega) (by omega)]; exact h), if_neg h]; rfl
    have hl0 : ∀ k, k < 7 → oc pth j 0 v0 (30 + 8 * pth j + k) = v0 (30 + 8 * pth j + k) := fun k hk => oc_low (fun r' _ => by omega) j 0 v0 (fun k' hk' => by have := hpth k' (by omega); omega)
    have hoc : oc pth (j + 1) 0 v0 = ocV (pth j) (oc pth j 0 v0) := by rw [oc_snoc, Nat.zero_add]
    have hcond : (oc pth j 0 v0 (30 + 8 * pth j) = oc pth j 0 v0 (30 + 8 * pth j + 2)) = (owv v0 (pth j) = nxv v0 (pth j)) := by
      have := hl0 0 (by omega)
      rw [Nat.add_zero] at this
      rw [this, hl0 2 (by omega), q5, q7, nI_eq (by omega) (by omega)]
    -- the world behind occupy
    have hoccN : ∀ w4 : Wd, (∀ g c, g ≠ 0 → w4 g c = w3 g c) → (∀ c i, c ≠ 9 → w4 0 c i = w3 0 c i) → (∀ r, r < R → w4 0 9 r = oc pth (j + 1) 0 v0 (30 + 8 * r + 7)) → CN N0 (w4 0) (oc pth (j + 1) 0 v0) p n T (j + 1) R pth := by
      intro w4 b0 b1 b2
      refine ⟨fun c i h => ?_, ?_, fun q hq => ⟨?_, ?_, ?_, fun k hk => ?_⟩, ?_, ?_, ?_, fun k hk => ?_, b2⟩
      · rw [b1 _ _ (by omega), a1 _ _ (by omega) (by omega)]; exact n1 c i h
      · rw [b1 _ _ (by omega), a1 _ _ (by omega) (by omega)]; exact n2
      · rw [b1 _ _ (by omega), a1 _ _ (by omega) (by omega)]; exact (n3 q hq).1
      · rw [b1 _ _ (by omega), a1 _ _ (by omega) (by omega)]; exact (n3 q hq).2.1
      · rw [b1 _ _ (by omega), ← hw3, wup_at, if_neg (by omega), wup_at, if_neg (by omega)]; exact (n3 q hq).2.2.1
      · rw [b1 _ _ (by omega), ← hw3, wup_at, if_neg (by omega), wup_at, if_neg (by omega)]; exact (n3 q hq).2.2.2 k hk
      · rw [b1 _ _ (by omega), a1 _ _ (by omega) (by omega)]; exact n4
      · rw [b1 _ _ (by omega), a1 _ _ (by omega) (by omega)]; exact n5
      · rw [b1 _ _ (by omega), ← hw3, wup_at, if_pos ⟨rfl, rfl, rfl⟩]
      · rw [b1 _ _ (by omega), ← hw3, wup_at, if_neg (by omega), wup_at]
        by_cases hkj : k = j
        · rw [if_pos ⟨rfl, rfl, by omega⟩, hkj]
        · rw [if_neg (by omega)]; exact n7 k (by omega)
    obtain ⟨w4, o1, o2, o3⟩ : ∃ w4, f_X6_occupy 0 w3 (nI (pth j)) = some ((), w4) ∧ (∀ g c, g ≠ 0 → w4 g c = w3 g c) ∧ CN N0 (w4 0) (oc pth (j + 1) 0 v0) p n T (j + 1) R pth := by
      by_cases hs : owv v0 (pth j) = nxv v0 (pth j)
      · refine ⟨w3, ?_, fun _ _ _ => rfl, hoccN w3 (fun _ _ _ => rfl) (fun _ _ _ => rfl) (fun r hr' => ?_)⟩
        · rw [f_X6_occupy, hasRt_T hR eR hr, if_neg (by decide), hsv, Option.bind_some]
          dsimp only
          rw [if_pos hs, if_neg (by decide)]
        · rw [a1 _ _ (by omega) (by omega), n8 r hr', hoc, ocV, if_pos (by rw [hcond]; exact hs)]
      · refine ⟨wup w3 0 9 (pth j) (w3 0 9 (pth j) + nI 1), ?_, fun g c h => by rw [wup_row, if_neg (by omega)], hoccN _ (fun g c h => by rw [wup_row, if_neg (by omega)]) (fun c i h => by rw [wup_at, if_neg (by omega)]) (fun r hr' => ?_)⟩
        · rw [f_X6_occupy, hasRt_T hR eR hr, if_neg (by decide), hsv, Option.bind_some]
          dsimp only
          rw [if_neg hs, if_pos (by decide), if_pos (ibT (by omega) (by omega)), if_pos (ibT (by omega) (by omega)), nI_clamp (by omega), letw]; rfl
        · rw [hoc, ocV, if_neg (by rw [hcond]; exact hs), wup_at]
          by_cases hrj : r = pth j
          · rw [if_pos ⟨rfl, rfl, hrj⟩, hrj, upd_eq, a1 _ _ (by omega) (by omega), n8 _ hr]
          · rw [if_neg (by omega), upd_ne (by omega), a1 _ _ (by omega) (by omega), n8 r hr']
    obtain ⟨w', c1, c2, c3⟩ := ih (j + 1) fu w4 (by omega) (by omega) (by omega) (by rw [o2 7 11 (by omega), a0 7 11 (by omega)]; exact e2) (fun k hk => by rw [o2 7 15 (by omega), a0 7 15 (by omega)]; exact e15 k hk) o3
    refine ⟨w', ?_, fun g c h => by rw [c2 g c h, o2 g c h, a0 g c h], c3⟩
    rw [h_X4_connect_18, b_X4_connect_18, if_neg (by rw [lit, nI_leI (by omega) (by omega)]; omega), p_X3_length, if_neg (by rw [e2, nI_leI (by omega) (by omega)]; omega), hst, Option.bind_some]
    dsimp only
    rw [had, Option.bind_some]
    dsimp only
    rw [o1, Option.bind_some]
    dsimp only
    rw [show (nI j + 1 : Int32) = nI (j + 1) from nI_add j 1]
    exact c1
theorem connect_spec {t S R P p n T len : Nat} {v0 : Nat → Int32} {pth : Nat → Nat} {w : Wd} (hV : Vd t v0 S R P) (hC : Cp (w 0) v0 S R P) (hp : p < 10) (hn : 1 ≤ n ∧ n < 2 ^ 31) (hl : len ≤ 6) (hpth : ∀ k, k < len → pth k < R) (e3 : w 7 11 3 = nI n) (eT : w 0 0 8 = nI T) (e2 : w 7 11 2 = nI len) (e15 : ∀ k, k < len → w 7 15 k = nI (pth k)) : ∃ w', f_X4_connect 0 w (nI p) = some ((), w') ∧ (∀ g c, g ≠ 0 → w' g c = w g c) ∧ CN (w 0) (w' 0) (oc pth len 0 v0) p n T len R pth := by
  generalize hw1 : wup (wup (wup (wup w 0 14 p (nI n)) 0 15 p (nI T)) 0 16 p (nI 0)) 0 13 4 (w 0 13 4 + nI 1) = w1
  have hput : f_X0_put 0 w (nI p) (nI n) (nI T) = some ((), w1) := by
    rw [f_X0_put, in_same, show (0 : Int32) = nI 0 from rfl, show (9 : Int32) = nI 9 from rfl, in_T (by omega) (by omega) (by omega), if_neg (by decide), if_pos (ibT hp (by omega)), nI_clamp (by omega), letw, if_pos (ibT hp (by omega)), letw, if_pos (ibT hp (by omega)), letw, letw, wup_at, if_neg (by omega), wup_at, if_neg (by omega), wup_at, if_neg (by omega), show (1 : Int32) = nI 1 from rfl, hw1]
  have a0 : ∀ g c, g ≠ 0 → w1 g c = w g c := fun g c h => by rw [← hw1, wup_row, if_neg (by omega), wup_row, if_neg (by omega), wup_row, if_neg (by omega), wup_row, if_neg (by omega)]
  have a1 : ∀ c i, ¬ (c = 13 ∧ i = 4) → ¬ (c = 14 ∧ i = p) → ¬ (c = 15 ∧ i = p) → ¬ (c = 16 ∧ i = p) → w1 0 c i = w 0 c i := fun c i h1 h2 h3 h4 => by rw [← hw1, wup_at, if_neg (by omega), wup_at, if_neg (by omega), wup_at, if_neg (by omega), wup_at, if_neg (by omega)]
  obtain ⟨w', c1, c2, c3⟩ := conn_loop (pth := pth) (T := T) hV hC hp hn hl hpth len 0 FU w1 rfl (by omega) (by rw [FU_eq]; omega) (by rw [a0 7 11 (by omega)]; exact e2) (fun k hk => by rw [a0 7 15 (by omega)]; exact e15 k hk) (by
    refine ⟨fun c i h => a1 _ _ (by omega) (by omega) (by omega) (by omega), ?_, fun q hq => ⟨a1 _ _ (by omega) (by omega) (by omega) (by omega), a1 _ _ (by omega) (by omega) (by omega) (by omega), a1 _ _ (by omega) (by omega) (by omega) (by omega), fun k hk => a1 _ _ (by omega) (by omega) (by omega) (by omega)⟩, ?_, ?_, ?_, fun k hk => by omega, fun r hr => ?_⟩
    · rw [← hw1, wup_at, if_pos ⟨rfl, rfl, rfl⟩]
    · rw [← hw1, wup_at, if_neg (by omega), wup_at, if_neg (by omega), wup_at, if_neg (by omega), wup_at, if_pos ⟨rfl, rfl, rfl⟩]
    · rw [← hw1, wup_at, if_neg (by omega), wup_at, if_neg (by omega), wup_at, if_pos ⟨rfl, rfl, rfl⟩]
    · rw [← hw1, wup_at, if_neg (by omega), wup_at, if_pos ⟨rfl, rfl, rfl⟩]
    · rw [a1 _ _ (by omega) (by omega) (by omega) (by omega), (hC.2.2.2.2.1 r hr).2.2.2.2.2]; rfl)
  refine ⟨w', ?_, fun g c h => by rw [c2 g c h, a0 g c h], c3⟩
  rw [f_X4_connect, p_X3_number, e3, eT, hput, Option.bind_some]
  exact c1
theorem cnt_set {v v' : Nat → Int32} {p : Nat} (h0 : ¬ v (420 + 14 * p) = nI 1) (h1 : v' (420 + 14 * p) = nI 1) (h : ∀ q, q ≠ p → v' (420 + 14 * q) = v (420 + 14 * q)) : ∀ n, cnt v' n = cnt v n + (if p < n then 1 else 0)
  | 0 => by rw [if_neg (by omega)]; rfl
  | n + 1 => by
    rw [cnt, cnt, cnt_set h0 h1 h n]
    by_cases hn : n = p
    · subst hn
      rw [if_neg (show ¬ n < n by omega), if_pos h1, if_neg h0, if_pos (by omega)]
    · rw [h n hn]
      by_cases hp : p < n
      · rw [if_pos hp, if_pos (show p < n + 1 by omega)]; omega
      · rw [if_neg hp, if_neg (show ¬ p < n + 1 by omega)]; omega
/-- network and row with one call more -/
theorem call_NR {t S R P p n T len : Nat} {N0 N' : Nat → Nat → Int32} {v0 v v' : Nat → Int32} {pth : Nat → Nat} (hV0 : Vd t v0 S R P) (hC : Cp N0 v0 S R P) (hV : Vd t v S R P) (hp : p < 10) (hn : 1 ≤ n ∧ n ≤ 999999999) (hT : T ≤ 1000000) (hl : len ≤ 6) (hpth : ∀ k, k < len → pth k < R) (hN : CN N0 N' v p n T len R pth) (hlow : ∀ j, (∀ r', r' < 40 → j ≠ 30 + 8 * r' + 7) → v j = v0 j) (hz : v (420 + 14 * p) = nI 0) (hv : ∀ j, j ≠ 5 → ¬ (420 + 14 * p ≤ j ∧ j < 434 + 14 * p) → v' j = v j) (h5 : v' 5 = v 5 + nI 1) (x0 : v' (420 + 14 * p) = nI 1) (x1 : v' (420 + 14 * p + 1) = nI n) (x2 : v' (420 + 14 * p + 2) = nI T) (x3 : v' (420 + 14 * p + 3) = nI (bandN T)) (x4 : v' (420 + 14 * p + 4) = nI len) (x5 : ∀ k, k < len → v' (420 + 14 * p + (5 + k)) = nI (pth k)) : NR t N' v' := by
  obtain ⟨n1, n2, n3, n4, n5, n6, n7, n8⟩ := hN
  obtain ⟨⟨a1, a2, a3, a4, a5, a6⟩, b1, b2, b3, b4, b5, b6, b7, b8⟩ := hV
  obtain ⟨⟨d1, d2, d3, d4, d5, d6⟩, ll, e1', e2, e3, e4, e5⟩ := hC
  have low : ∀ j, (j < 30 ∨ 350 ≤ j) → v j = v0 j := fun j h => hlow j (fun r' _ => by omega)
  have vv : ∀ j, j ≠ 5 → (j < 30 ∨ 350 ≤ j) → ¬ (420 + 14 * p ≤ j ∧ j < 434 + 14 * p) → v' j = v0 j := fun j h1 h2 h3 => (hv j h1 h3).trans (low j h2)
  have hcnt : cnt v' 10 = cnt v 10 + 1 := by
    rw [cnt_set (v := v) (p := p) (by rw [hz]; decide) x0 (fun q hq => hv _ (by omega) (by omega)) 10, if_pos hp]
  refine ⟨S, R, P, ⟨⟨a1, a2, a3, ?_, ?_, ?_⟩, ?_, ?_, ?_, ?_, ?_, rtA a2 (Nat.le_refl _) (Nat.le_refl _) (fun j h1 h2 => hv _ (by omega) (by omega)) b6, ptA a3 (Nat.le_refl _) (fun j h1 h2 => hv _ (by omega) (by omega)) b7, ?_⟩, ⟨⟨?_, ?_, ?_, ?_, ?_, ?_⟩, cLA (v := v0) ?_ (fun s hs => vv _ (by omega) (by omega) (by omega)) ll, ?_, ?_, ?_, cPA a3 (fun c i h1 h2 => ?_) (fun j h1 h2 => vv _ (by omega) (by omega) (by omega)) e4, ?_⟩⟩
  · rw [hv _ (by omega) (by omega)]; exact a4
  · rw [hv _ (by omega) (by omega)]; exact a5
  · rw [hv _ (by omega) (by omega)]; exact a6
  · rw [hv _ (by omega) (by omega)]; exact b1
  · rw [hv _ (by omega) (by omega)]; exact b2
  · rw [h5, hcnt, b3, nI_add]
  · intro s hs; rw [hv _ (by omega) (by omega)]; exact b4 s hs
  · intro s hs; rw [hv _ (by omega) (by omega)]; exact b5 s hs
  · intro p' hp'
    by_cases hx : p' = p
    · subst hx
      exact Or.inr ⟨x0, n, T, len, hn.1, hn.2, hT, hl, x1, x2, x3, x4, fun k hk => ⟨pth k, hpth k hk, x5 k hk⟩⟩
    · exact cl1 hp' (Nat.le_refl _) (fun j hj => hv _ (by omega) (by omega)) (b8 p' hp')
  · rw [n1 _ _ (by omega), vv _ (by omega) (by omega) (by omega)]; exact d1
  · rw [n1 _ _ (by omega), vv _ (by omega) (by omega) (by omega)]; exact d2
  · rw [n1 _ _ (by omega), vv _ (by omega) (by omega) (by omega)]; exact d3
  · rw [n1 _ _ (by omega), vv _ (by omega) (by omega) (by omega)]; exact d4
  · rw [n1 _ _ (by omega), vv _ (by omega) (by omega) (by omega)]; exact d5
  · rw [n2, h5, d6, low 5 (by omega)]
  · rw [n1 _ _ (by omega)]
  · intro s hs; rw [n1 _ _ (by omega), vv _ (by omega) (by omega) (by omega)]; exact e1' s hs
  · intro k hk; rw [n1 _ _ (by omega), vv _ (by omega) (by omega) (by omega)]; exact e2 k hk
  · intro r hr
    obtain ⟨y1, y2, y3, y4, y5, y6⟩ := e3 r hr
    have lw : ∀ k, k < 7 → v' (30 + 8 * r + k) = v0 (30 + 8 * r + k) := fun k hk => (hv _ (by omega) (by omega)).trans (hlow _ (fun r' _ => by omega))
    have lw0 := lw 0 (by omega)
    rw [Nat.add_zero] at lw0
    refine ⟨?_, ?_, ?_, fun b hb => ?_, ?_, ?_⟩
    · rw [n1 _ _ (by omega), lw0]; exact y1
    · rw [n1 _ _ (by omega), lw 1 (by omega)]; exact y2
    · rw [n1 _ _ (by omega), lw 2 (by omega)]; exact y3
    · rw [n1 _ _ (by omega), lw (3 + b) (by omega)]; exact y4 b hb
    · rw [n1 _ _ (by omega), lw 6 (by omega)]; exact y5
    · rw [n8 r hr, hv _ (by omega) (by omega)]
  · rw [n1 _ _ (by omega)]
  · intro p' hp'
    by_cases hx : p' = p
    · subst hx
      refine Or.inr ⟨x0, by rw [n4, x1], by rw [n5, x2], by rw [n6, x4], fun k hk hlt => ?_⟩
      rw [x4, nI_ltI (by omega) (by omega)] at hlt
      rw [n7 k hlt, x5 k hlt]
    · obtain ⟨o1, o2, o3, o4⟩ := n3 p' hx
      exact cC1 ⟨o1, o2, o3, o4⟩ (fun j hj => vv _ (by omega) (by omega) (by omega)) (e5 p' hp')
