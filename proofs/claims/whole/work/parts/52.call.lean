theorem cnt_le (v : Nat → Int32) : ∀ n, cnt v n ≤ n
  | 0 => Nat.le_refl _
  | n + 1 => by
    rw [cnt]
    have := cnt_le v n
    split <;> omega
theorem cnt_all {v : Nat → Int32} : ∀ n, cnt v n = n ↔ ∀ p, p < n → v (420 + 14 * p) = nI 1
  | 0 => ⟨fun _ p h => by omega, fun _ => rfl⟩
  | n + 1 => by
    have ih := cnt_all (v := v) n
    have hle := cnt_le v n
    rw [cnt]
    constructor
    · intro h p hp
      by_cases hv : v (420 + 14 * n) = nI 1
      · rw [if_pos hv] at h
        by_cases hpn : p = n
        · rw [hpn]; exact hv
        · exact ih.mp (by omega) p (by omega)
      · rw [if_neg hv] at h; omega
    · intro h
      rw [if_pos (h n (by omega)), ih.mpr (fun p hp => h p (by omega))]
/-- the first free place, on both sides -/
theorem free_loop {t S R P : Nat} {w : Wd} {v : Nat → Int32} (hV : Vd t v S R P) (hC : Cp (w 0) v S R P) : ∀ (d k fu : Nat), 10 - k = d → k ≤ 10 → d < fu → (∀ q, q < k → v (420 + 14 * q) = nI 1) → (∃ p, k ≤ p ∧ p < 10 ∧ v (420 + 14 * p) = nI 0 ∧ (∀ q, q < p → v (420 + 14 * q) = nI 1) ∧ h_X0_freePlace_2 0 fu w (nI k) = some (nI p, w)) ∨ ((∀ q, q < 10 → v (420 + 14 * q) = nI 1) ∧ h_X0_freePlace_2 0 fu w (nI k) = some (-9, w)) := by
  intro d
  induction d with
  | zero =>
    intro k fu h1 h2 h3 h4
    obtain ⟨fu, rfl⟩ : ∃ z, fu = z + 1 := ⟨fu - 1, by omega⟩
    have hk : k = 10 := by omega
    subst hk
    exact Or.inr ⟨h4, by rw [h_X0_freePlace_2, b_X0_freePlace_2, if_pos (by decide)]⟩
  | succ d ih =>
    intro k fu h1 h2 h3 h4
    obtain ⟨fu, rfl⟩ : ∃ z, fu = z + 1 := ⟨fu - 1, by omega⟩
    have hu : h_X0_freePlace_2 0 (fu + 1) w (nI k) = if w 0 14 k = 0 then some (nI k, w) else h_X0_freePlace_2 0 fu w (nI (k + 1)) := by
      rw [h_X0_freePlace_2, b_X0_freePlace_2, if_neg (by rw [lit, nI_leI (by omega) (by omega)]; omega), if_pos (ibT (by omega) (by omega)), nI_clamp (by omega), show (nI k + 1 : Int32) = nI (k + 1) from nI_add k 1]
    rw [hu]
    rcases hC.2.2.2.2.2.2 k (by omega) with ⟨e1, e2⟩ | ⟨e1, e2, -⟩
    · exact Or.inl ⟨k, by omega, by omega, e1, h4, by rw [if_pos (by rw [e2]; rfl)]⟩
    · have hne : ¬ w 0 14 k = 0 := by
        rcases hV.2.2.2.2.2.2.2.2 k (by omega) with z | ⟨-, n, st, len, y1, y2, y3, y4, y5, -⟩
        · dsimp only at z
          rw [Nat.add_zero, e1] at z
          exact absurd z (by decide)
        · dsimp only at y5
          rw [e2, y5]
          exact nI_ne_0 (by omega) (by omega)
      rw [if_neg hne]
      rcases ih (k + 1) fu (by omega) (by omega) (by omega) (fun q hq => by
        by_cases hqk : q = k
        · rw [hqk]; exact e1
        · exact h4 q (by omega)) with ⟨p, p1, p2, p3, p4, p5⟩ | h
      · exact Or.inl ⟨p, by omega, p2, p3, p4, p5⟩
      · exact Or.inr h
/-- the model writes the way into the call -/
theorem call183_loop {p len : Nat} {pth : Nat → Nat} (hp : p < 10) (hl : len ≤ 6) : ∀ (m k fu : Nat) (w : Wd), len - k = m → k ≤ len → m < fu → w 8 0 17 = nI len → (∀ j, j < len → w 8 13 j = nI (pth j)) →
    ∃ u, h_X10_call_183 fu w (nI p) (nI (420 + 14 * p)) (nI k) = some (nI p, wr w 8 1 u) ∧ u 5 = w 8 1 5 + nI 1 ∧ (∀ j, k ≤ j → j < len → u (420 + 14 * p + (5 + j)) = nI (pth j)) ∧ ∀ j, j ≠ 5 → ¬ (425 + 14 * p + k ≤ j ∧ j < 425 + 14 * p + len) → u j = w 8 1 j := by
  intro m
  induction m with
  | zero =>
    intro k fu w h1 h2 h3 e17 e13
    obtain ⟨fu, rfl⟩ : ∃ z, fu = z + 1 := ⟨fu - 1, by omega⟩
    refine ⟨upd (w 8 1) 5 (w 8 1 5 + nI 1), ?_, upd_eq, fun j a b => by omega, fun j h _ => upd_ne h⟩
    rw [h_X10_call_183, b_X10_call_183, if_pos (by rw [e17, nI_leI (by omega) (by omega)]; omega), if_pos (show ib 5 640 = true from rfl), if_pos (show ib 5 640 = true from rfl), show Int32.toNatClampNeg 5 = 5 from rfl, letw]
    rfl
  | succ m ih =>
    intro k fu w h1 h2 h3 e17 e13
    obtain ⟨fu, rfl⟩ : ∃ z, fu = z + 1 := ⟨fu - 1, by omega⟩
    generalize hw1 : wup w 8 1 (420 + 14 * p + (5 + k)) (nI (pth k)) = w1
    obtain ⟨u, u1, u2, u3, u4⟩ := ih (k + 1) fu w1 (by omega) (by omega) (by omega) (by rw [← hw1, wup_at, if_neg (by omega)]; exact e17) (fun j hj => by rw [← hw1, wup_at, if_neg (by omega)]; exact e13 j hj)
    have hrow : ∀ j, j ≠ 420 + 14 * p + (5 + k) → w1 8 1 j = w 8 1 j := fun j h => by rw [← hw1, wup_at, if_neg (by omega)]
    refine ⟨u, ?_, ?_, fun j a b => ?_, fun j h h' => ?_⟩
    · rw [h_X10_call_183, b_X10_call_183, if_neg (by rw [e17, nI_leI (by omega) (by omega)]; omega), if_pos (ibT (by omega) (by omega)), nI_clamp (by omega), e13 k (by omega), show (nI (420 + 14 * p) + 5 + nI k : Int32) = nI (420 + 14 * p + (5 + k)) from by rw [lit, nI_add, nI_add, Nat.add_assoc], if_pos (ibT (by omega) (by omega)), nI_clamp (by omega), letw, hw1, show (nI k + 1 : Int32) = nI (k + 1) from nI_add k 1, u1, ← hw1, wr_wup]
    · rw [u2, hrow 5 (by omega)]
    · by_cases hj : j = k
      · rw [hj, u4 _ (by omega) (by omega), ← hw1, wup_at, if_pos ⟨rfl, rfl, rfl⟩]
      · exact u3 j (by omega) b
    · rw [u4 j h (by omega), hrow j (by omega)]
theorem call80_loop {p n T len : Nat} {pth : Nat → Nat} (hp : p < 10) (hT : T ≤ 1000000) (hl : len ≤ 6) {w : Wd} (e17 : w 8 0 17 = nI len) (e13 : ∀ j, j < len → w 8 13 j = nI (pth j)) (e4 : w 8 1 4 = nI T) (hz : w 8 1 (420 + 14 * p) = nI 0) (hq : ∀ q, q < p → w 8 1 (420 + 14 * q) = nI 1) : ∀ (m k fu : Nat), p - k = m → k ≤ p → m < fu →
    ∃ u, h_X10_call_80 fu w (nI n) (nI k) = some (nI p, wr w 8 1 u) ∧ u 5 = w 8 1 5 + nI 1 ∧ (∀ j, j < len → u (420 + 14 * p + (5 + j)) = nI (pth j)) ∧ u (420 + 14 * p) = nI 1 ∧ u (420 + 14 * p + 1) = nI n ∧ u (420 + 14 * p + 2) = nI T ∧ u (420 + 14 * p + 3) = nI (bandN T) ∧ u (420 + 14 * p + 4) = nI len ∧ ∀ j, j ≠ 5 → ¬ (420 + 14 * p ≤ j ∧ j < 434 + 14 * p) → u j = w 8 1 j := by
  intro m
  induction m with
  | zero =>
    intro k fu h1 h2 h3
    obtain ⟨fu, rfl⟩ : ∃ z, fu = z + 1 := ⟨fu - 1, by omega⟩
    have hk : k = p := by omega
    subst hk
    generalize hw7 : wup w 8 1 (420 + 14 * k) (nI 1) = w7
    generalize hw8 : wup w7 8 1 (420 + 14 * k + 1) (nI n) = w8
    generalize hw9 : wup w8 8 1 (420 + 14 * k + 2) (nI T) = w9
    generalize hw10 : wup w9 8 1 (420 + 14 * k + 3) (nI (bandN T)) = w10
    generalize hw11 : wup w10 8 1 (420 + 14 * k + 4) (nI len) = w11
    have e84 : w8 8 1 4 = nI T := by rw [← hw8, wup_at, if_neg (by omega), ← hw7, wup_at, if_neg (by omega)]; exact e4
    have e94 : w9 8 1 4 = nI T := by rw [← hw9, wup_at, if_neg (by omega)]; exact e84
    have e10 : w10 8 0 17 = nI len := by rw [← hw10, wup_at, if_neg (by omega), ← hw9, wup_at, if_neg (by omega), ← hw8, wup_at, if_neg (by omega), ← hw7, wup_at, if_neg (by omega)]; exact e17
    have e11 : w11 8 0 17 = nI len := by rw [← hw11, wup_at, if_neg (by omega)]; exact e10
    have e13' : ∀ j, j < len → w11 8 13 j = nI (pth j) := fun j hj => by rw [← hw11, wup_at, if_neg (by omega), ← hw10, wup_at, if_neg (by omega), ← hw9, wup_at, if_neg (by omega), ← hw8, wup_at, if_neg (by omega), ← hw7, wup_at, if_neg (by omega)]; exact e13 j hj
    obtain ⟨u, u1, u2, u3, u4⟩ := call183_loop (pth := pth) hp hl len 0 FU w11 rfl (by omega) (by rw [FU_eq]; omega) e11 e13'
    have hr : ∀ j, ¬ (420 + 14 * k ≤ j ∧ j < 425 + 14 * k) → w11 8 1 j = w 8 1 j := fun j h => by rw [← hw11, wup_at, if_neg (by omega), ← hw10, wup_at, if_neg (by omega), ← hw9, wup_at, if_neg (by omega), ← hw8, wup_at, if_neg (by omega), ← hw7, wup_at, if_neg (by omega)]
    refine ⟨u, ?_, ?_, fun j hj => u3 j (by omega) hj, ?_, ?_, ?_, ?_, ?_, fun j h h' => ?_⟩
    · rw [h_X10_call_80, b_X10_call_80, show (420 + 14 * nI k : Int32) = nI (420 + 14 * k) from by rw [lit, lit, nI_mul, nI_add], if_pos (ibT (by omega) (by omega)), nI_clamp (by omega), if_neg (by rw [hz]; decide), leti, if_pos (ibT (by omega) (by omega)), nI_clamp (by omega), show (1 : Int32) = nI 1 from rfl, letw, hw7, nI_add, if_pos (ibT (by omega) (by omega)), nI_clamp (by omega), letw, hw8, if_pos (show ib 4 640 = true from rfl), show (nI (420 + 14 * k) + 2 : Int32) = nI (420 + 14 * k + 2) from nI_add _ 2, if_pos (ibT (by omega) (by omega)), nI_clamp (by omega), show Int32.toNatClampNeg 4 = 4 from rfl, e84, letw, hw9, if_pos (show ib 4 640 = true from rfl), show (nI (420 + 14 * k) + 3 : Int32) = nI (420 + 14 * k + 3) from nI_add _ 3, if_pos (ibT (by omega) (by omega)), nI_clamp (by omega), e94, bandOf_m (by omega), letw, hw10, show (nI (420 + 14 * k) + 4 : Int32) = nI (420 + 14 * k + 4) from nI_add _ 4, if_pos (ibT (by omega) (by omega)), nI_clamp (by omega), e10, letw, hw11]
      refine u1.trans ?_
      rw [← hw11, wr_wup, ← hw10, wr_wup, ← hw9, wr_wup, ← hw8, wr_wup, ← hw7, wr_wup]
    · rw [u2, hr 5 (by omega)]
    · rw [u4 _ (by omega) (by omega), ← hw11, wup_at, if_neg (by omega), ← hw10, wup_at, if_neg (by omega), ← hw9, wup_at, if_neg (by omega), ← hw8, wup_at, if_neg (by omega), ← hw7, wup_at, if_pos ⟨rfl, rfl, rfl⟩]
    · rw [u4 _ (by omega) (by omega), ← hw11, wup_at, if_neg (by omega), ← hw10, wup_at, if_neg (by omega), ← hw9, wup_at, if_neg (by omega), ← hw8, wup_at, if_pos ⟨rfl, rfl, rfl⟩]
    · rw [u4 _ (by omega) (by omega), ← hw11, wup_at, if_neg (by omega), ← hw10, wup_at, if_neg (by omega), ← hw9, wup_at, if_pos ⟨rfl, rfl, rfl⟩]
    · rw [u4 _ (by omega) (by omega), ← hw11, wup_at, if_neg (by omega), ← hw10, wup_at, if_pos ⟨rfl, rfl, rfl⟩]
    · rw [u4 _ (by omega) (by omega), ← hw11, wup_at, if_pos ⟨rfl, rfl, rfl⟩]
    · rw [u4 j h (by omega), hr j (by omega)]
  | succ m ih =>
    intro k fu h1 h2 h3
    obtain ⟨fu, rfl⟩ : ∃ z, fu = z + 1 := ⟨fu - 1, by omega⟩
    have hu : h_X10_call_80 (fu + 1) w (nI n) (nI k) = h_X10_call_80 fu w (nI n) (nI (k + 1)) := by
      rw [h_X10_call_80, b_X10_call_80, show (420 + 14 * nI k : Int32) = nI (420 + 14 * k) from by rw [lit, lit, nI_mul, nI_add], if_pos (ibT (by omega) (by omega)), nI_clamp (by omega), if_pos (by rw [hq k (by omega)]; rfl), show (nI k + 1 : Int32) = nI (k + 1) from nI_add k 1]
    rw [hu]
    exact ih (k + 1) fu (by omega) (by omega) (by omega)
theorem hist_push2 {t n c2 : Nat} {vk : Nat → Int32} {w w1 w1' w2 w3 : Wd} (H : HR t w) (hnr : NR t (w n) vk) (hp : Pushed w w1 n) (hk : Kept w1' w2 c2) (e1 : w1' 8 0 3 = w 8 0 3) (e2 : w1' 8 3 = w 8 3) (e3 : ∀ j, j < 640 → w1' 8 c2 j = vk j) (e4 : ∀ g, 2 ≤ g → g < 7 → w3 g = w1 g) (e5 : w3 7 1 1 = w1 7 1 1) (e6 : w3 7 1 2 = w1 7 1 2) (e7 : w3 8 0 3 = w2 8 0 3) (e8 : w3 8 3 = w2 8 3) : HR t w3 := by
  obtain ⟨F, C, hF, hC, h1, h2, h3, h4⟩ := H
  obtain ⟨p1, p2, p3, p4⟩ := hp.2 F C hF hC h1 h2
  obtain ⟨k1, k2, k3⟩ := hk.2.2 C hC (e1.trans h3)
  have hF1 : F1 F C < 5 := by
    unfold F1
    split
    · exact Nat.mod_lt _ (by omega)
    · exact hF
  have hC0 : C0 C ≤ 4 := by unfold C0; split <;> omega
  refine ⟨F1 F C, C0 C + 1, hF1, by omega, by rw [e5]; exact p1, by rw [e6]; exact p2, by rw [e7]; exact k1, ?_⟩
  intro i hi
  have hm : (F1 F C + i) % 5 < 5 := Nat.mod_lt _ (by omega)
  rw [e4 _ (by omega) (by omega), e8]
  by_cases hic : i = C0 C
  · subst hic
    exact hnr.congr p3 (fun j hj => by rw [k3 j hj, e3 j hj])
  · have hne : (F1 F C + i) % 5 ≠ (F1 F C + C0 C) % 5 := by omega
    rw [p4 _ (by omega) (by omega) (by omega)]
    by_cases h5 : C = 5
    · subst h5
      have hx := h4 (i + 1) (by simp only [C0, if_true] at hi hic; omega)
      have e : (F1 F 5 + i) % 5 = (F + (i + 1)) % 5 := by simp only [F1, if_true]; omega
      rw [e]
      exact hx.congr NEq.rfl' (fun j hj => by rw [k2 i j hj (by omega), e2]; simp only [if_true])
    · have hx := h4 i (by simp only [C0, h5, if_false] at hi hic; omega)
      have e : F1 F C = F := by simp only [F1, h5, if_false]
      rw [e]
      exact hx.congr NEq.rfl' (fun j hj => by rw [k2 i j hj (by omega), e2]; simp only [h5, if_false])
theorem op_call {t : Nat} {w : Wd} (H : Inv t w) (x1 x2 : Int32) : ∃ r w1 w2, f_X9_call w x1 x2 = some (r, w1) ∧ f_X10_call w1 x1 x2 = some (r, w2) ∧ Inv t w2 := by
  obtain ⟨S, R, P, hV, hC⟩ := H.now
  obtain ⟨ht, hN, hH, hTx, hAx⟩ := id H
  have hS := hV.1.1
  have hR := hV.1.2.1
  have eS8 : w 8 1 0 = nI S := hV.1.2.2.2.1
  have eS : w 0 0 5 = nI S := hC.1.1.trans eS8
  obtain ⟨T, hT, eT⟩ := hV.2.2.1
  obtain ⟨Lim, hL1, hL6, eL⟩ := hV.2.1
  have e5 : w 8 1 5 = nI (cnt (w 8 1) 10) := hV.2.2.2.1
  rcases rl x1 S with ⟨a, ha, rfl⟩ | h
  rotate_left
  · refine ⟨-1, w, w, ?_, ?_, H⟩
    · rw [f_X9_call, hasSw_F hS eS h, if_pos (by decide)]
    · rw [f_X10_call, isSw_F hS eS8 h, Option.bind_some]
      dsimp only
      rw [if_pos (by decide)]
  rcases rg x2 1 999999999 with ⟨n, hn1, hn9, rfl⟩ | h
  rotate_left
  · refine ⟨-1, w, w, ?_, ?_, H⟩
    · rw [f_X9_call, hasSw_T hS eS ha, if_neg (by decide), (isNum_F h).1, Option.bind_some]
      dsimp only
      rw [if_pos (by decide)]
    · rw [f_X10_call, isSw_T hS eS8 ha, Option.bind_some]
      dsimp only
      rw [if_neg (by decide), (isNum_F h).2, Option.bind_some]
      dsimp only
      rw [if_pos (by decide)]
  have hcls : f_X9_call w (nI a) (nI n) = (f_X0_freePlace 0 w).bind fun q2 => if q2.1 = (-9) then some ((-3), q2.2) else (f_X3_start 0 q2.2 (nI a) (nI n)).bind fun q3 => if q3.1 = 0 then (f_X2_push 0 q3.2).bind fun q4 => (f_X4_connect 0 q4.2 q2.1).bind fun q5 => some (q2.1, q5.2) else some ((-10) - q3.1, q3.2) := by
    rw [f_X9_call, hasSw_T hS eS ha, if_neg (by decide), (isNum_T hn1 hn9).1, Option.bind_some]
    dsimp only
    rw [if_neg (by decide)]
  have hmod : ∀ w' : Wd, w' 8 1 = w 8 1 → f_X10_call w' (nI a) (nI n) = if w' 8 1 5 = 10 then some (-3, w') else (f_X10_copies 1 2 w').bind fun q3 => (f_X10_places q3.2 (nI a) (nI n)).bind fun q4 => if q4.1 = 0 then (f_X10_keeps 2 q4.2).bind fun q5 => h_X10_call_80 FU q5.2 (nI n) 0 else (f_X10_copies 2 1 q4.2).bind fun q14 => some ((-10) - q4.1, q14.2) := by
    intro w' h8
    rw [f_X10_call, isSw_T hS (by rw [h8]; exact eS8) ha, Option.bind_some]
    dsimp only
    rw [if_neg (by decide), (isNum_T hn1 hn9).2, Option.bind_some]
    dsimp only
    rw [if_neg (by decide), if_pos (show ib 5 640 = true from rfl)]
    rfl
  rcases free_loop hV hC 10 0 FU rfl (by omega) (by rw [FU_eq]; omega) (fun q hq => by omega) with ⟨p, -, hp, hz, hq, hfr⟩ | ⟨hall, hfr⟩
  rotate_left
  · refine ⟨-3, w, w, ?_, ?_, H⟩
    · rw [hcls, f_X0_freePlace, show (0 : Int32) = nI 0 from rfl, hfr, Option.bind_some]
      dsimp only
      rw [if_pos rfl]
    · rw [hmod w rfl, if_pos (by rw [e5, (cnt_all 10).mpr hall]; rfl)]
  have hc10 : ¬ cnt (w 8 1) 10 = 10 := by
    intro h
    have := (cnt_all 10).mp h p hp
    rw [hz] at this
    exact absurd this (by decide)
  have hcle := cnt_le (w 8 1) 10
  obtain ⟨L, l9, l2⟩ := IsLen.ex 9 n (by omega)
  obtain ⟨bz, hbz, hb1, hb2⟩ := busy_both (t := t) (n := n) ⟨hn1, by omega⟩ hC
  have J : Jc t S R P T n L Lim bz (w 8 1) (w 0) := ⟨hV, hC, ⟨eT, hT⟩, ⟨eL, hL1, hL6⟩, ⟨hn1, hn9, l2, l9⟩, hbz, hb1, hb2⟩
  obtain ⟨c, wB, wN0, A0, q1, q2, q3, q4, q5, q6, q7, q8, q9, q10, q11, q12⟩ := places_both (wA := w) (wM := w) ht J ha rfl rfl
  rw [f_X0_freePlace, show (0 : Int32) = nI 0 from rfl, hfr, Option.bind_some] at hcls
  dsimp only at hcls
  rw [if_neg (nI_ne_m9 (by omega)), q3, Option.bind_some] at hcls
  dsimp only at hcls
  have hB8 : ∀ d, wB 8 d = w 8 d := fun d => q5 8 d (by omega)
  -- the model on a world whose group 8 is w's
  have second : ∀ wC : Wd, (∀ d, wC 8 d = w 8 d) → ∃ wN A, A ≤ 30 ∧ f_X10_places (wr wC 8 2 (fun j => if j < 640 then wC 8 1 j else wC 8 2 j)) (nI a) (nI n) = some (nI c, wN) ∧ (wB 7 12 2 = nI A ∧ wN 8 0 15 = nI A ∧ ∀ i, i < A → wB 7 13 i = wN 8 11 i ∧ wB 7 14 i = wN 8 12 i) ∧ (∀ g d, g ≠ 8 → wN g d = wC g d) ∧ (∀ j, j < 640 → wN 8 2 j = w 8 1 j) ∧ (∀ d, (d = 3 ∨ 14 ≤ d) → wN 8 d = w 8 d) ∧ (∀ i, (i = 3 ∨ i = 19) → wN 8 0 i = w 8 0 i) ∧ (c = 0 → ∃ len pth, len ≤ 6 ∧ wB 7 11 2 = nI len ∧ wN 8 0 17 = nI len ∧ (∀ j, j < len → pth j < R ∧ wB 7 15 j = nI (pth j) ∧ wN 8 13 j = nI (pth j)) ∧ wN 8 1 = oc pth len 0 (w 8 1) ∧ Vd t (wN 8 1) S R P) := by
    intro wC hC8
    obtain ⟨c', wB', wN, A, r1, r2, r3, r4, r5, r6, r7, r8, r9, r10, r11, r12⟩ := places_both (wA := w) (wM := wr wC 8 2 (fun j => if j < 640 then wC 8 1 j else wC 8 2 j)) ht J ha rfl (by rw [wr_at, if_neg (by omega)]; exact hC8 1)
    have hpair := Option.some.inj (q3.symm.trans r3)
    have hc' : c' = c := ((nI_eq (by omega) (by omega)).mp (congrArg Prod.fst hpair)).symm
    have hwB : wB' = wB := (congrArg Prod.snd hpair).symm
    subst hc'
    subst hwB
    refine ⟨wN, A, r2, r4, r8, fun g d h => ?_, fun j hj => ?_, fun d h => ?_, fun i h => ?_, r12⟩
    · rw [r9 g d h, wr_at, if_neg (by omega)]
    · rw [r10 2 (by omega), wr_at, if_pos ⟨rfl, rfl⟩, if_pos hj, hC8]
    · rw [r10 d (by omega), wr_at, if_neg (by omega), hC8]
    · rw [r11 i h, wr_at, if_neg (by omega), hC8]
  by_cases hc0 : c = 0
  · -- it is connected
    obtain ⟨F, C, hF, hC5, hh1, hh2, hh3, hh4⟩ := id hH
    obtain ⟨w1, p1, p2⟩ := push_spec (n := 0) (w := wB) (by omega) hF hC5 (by rw [q6 1 (by omega)]; exact hh1) (by rw [q6 1 (by omega)]; exact hh2)
    have g10 : ∀ d, w1 0 d = w 0 d := fun d => (p2.1 0 d (by omega) (by omega)).trans (q5 0 d (by omega))
    have hC1 : Cp (w1 0) (w 8 1) S R P := by rw [show w1 0 = w 0 from funext g10]; exact hC
    obtain ⟨len, pth, z1, z2, -, z4, -, -⟩ := q12 hc0
    have g17 : ∀ d, d ≠ 1 → w1 7 d = wB 7 d := fun d h => p2.1 7 d (by omega) (by omega)
    obtain ⟨wC, k1, k2, k3⟩ := connect_spec (pth := pth) (n := n) (T := T) (len := len) hV hC1 hp ⟨hn1, by omega⟩ z1 (fun k hk => (z4 k hk).1) (by rw [g17 11 (by omega)]; exact q7) (by rw [g10]; exact hC.1.2.2.2.2.1.trans eT) (by rw [g17 11 (by omega)]; exact z2) (fun k hk => by rw [g17 15 (by omega)]; exact (z4 k hk).2.1)
    have hC8 : ∀ d, wC 8 d = w 8 d := fun d => ((k2 8 d (by omega)).trans (p2.1 8 d (by omega) (by omega))).trans (hB8 d)
    obtain ⟨wN, A, s1, s2, s3, s4, s5, s6, s7, s8⟩ := second wC hC8
    obtain ⟨len', pth', u1, u2, u3, u4, u5, u6⟩ := s8 hc0
    have hlen : len' = len := (nI_eq (by omega) (by omega)).mp (u2.symm.trans z2)
    subst hlen
    have hpp : ∀ j, j < len' → pth' j = pth j := fun j hj => (nI_eq (by have := (u4 j hj).1; omega) (by have := (z4 j hj).1; omega)).mp ((u4 j hj).2.1.symm.trans (z4 j hj).2.1)
    rw [show oc pth' len' 0 (w 8 1) = oc pth len' 0 (w 8 1) from oc_congr len' 0 _ (fun j _ h => hpp j (by omega))] at u5
    obtain ⟨w2, v1, v2⟩ := kept_spec (c2 := 2) (w := wN) (by omega) (by omega) hC5 (by rw [s7 3 (by omega)]; exact hh3)
    have g2 : ∀ c, c ≠ 3 → c ≠ 0 → w2 8 c = wN 8 c := fun c h1 h2 => v2.1 8 c (by omega)
    have hlow : ∀ j, (∀ r', r' < 40 → j ≠ 30 + 8 * r' + 7) → wN 8 1 j = w 8 1 j := fun j h => by
      rw [u5]; exact oc_low h len' 0 _ (fun k hk => by have := (z4 k (by omega)).1; omega)
    have hl2 : ∀ j, 350 ≤ j → wN 8 1 j = w 8 1 j := fun j h => hlow j (fun r' hr' => by omega)
    obtain ⟨u, b1, b2, b3, b4, b5, b6, b7, b8, b9⟩ := call80_loop (n := n) (pth := pth) (len := len') (T := T) (w := w2) hp hT z1 (by rw [v2.2.1 17 (by omega)]; exact u3) (fun j hj => by rw [g2 13 (by omega) (by omega), (u4 j hj).2.2, hpp j hj]) (by rw [g2 1 (by omega) (by omega), hlow 4 (fun r' _ => by omega)]; exact eT) (by rw [g2 1 (by omega) (by omega), hl2 _ (by omega)]; exact hz) (fun q hq' => by rw [g2 1 (by omega) (by omega), hl2 _ (by omega)]; exact hq q hq') p 0 FU rfl (by omega) (by rw [FU_eq]; omega)
    rw [g2 1 (by omega) (by omega)] at b2 b9
    refine ⟨nI p, wC, wr w2 8 1 u, ?_, ?_, ?_⟩
    · rw [hcls, if_pos (by rw [hc0]), p1, Option.bind_some]
      dsimp only
      rw [k1, Option.bind_some]
    · rw [hmod wC (hC8 1), if_neg (by rw [hC8, e5, show (10 : Int32) = nI 10 from rfl, nI_eq (by omega) (by omega)]; exact hc10), copies_spec 1 2 (by omega), Option.bind_some]
      dsimp only
      rw [s2, Option.bind_some]
      dsimp only
      rw [if_pos (by rw [hc0]; rfl), v1, Option.bind_some]
      dsimp only
      exact b1
    · have f7 : ∀ g, g ≠ 8 → (wr w2 8 1 u) g = wC g := fun g h => funext fun c => by rw [wr_at, if_neg (by omega), v2.1 g c (by omega), s4 g c h]
      have f8 : ∀ c, c ≠ 1 → c ≠ 3 → c ≠ 0 → (wr w2 8 1 u) 8 c = wN 8 c := fun c h1 h2 h3 => by rw [wr_at, if_neg (by omega), g2 c h2 h3]
      have f80 : ∀ i, i ≠ 3 → (wr w2 8 1 u) 8 0 i = wN 8 0 i := fun i h => by rw [wr_at, if_neg (by omega), v2.2.1 i h]
      have c7 : ∀ d, d ≠ 1 → wC 7 d = wB 7 d := fun d h => (k2 7 d (by omega)).trans (g17 d h)
      refine ⟨ht, ?_, ?_, ?_, ?_⟩
      · rw [f7 0 (by omega), wr_at, if_pos ⟨rfl, rfl⟩]
        exact call_NR hV hC1 u6 hp ⟨hn1, hn9⟩ hT z1 (fun k hk => (z4 k hk).1) (by rw [u5]; exact k3) hlow (by rw [hl2 _ (by omega)]; exact hz) b9 b2 b4 b5 b6 b7 b8 b3
      · have hHB : HR t wB := hH.congr (by rw [q6 1 (by omega)]) (by rw [q6 1 (by omega)]) (by rw [hB8]) (fun g h1 h2 => funext fun c => q5 g c (by omega)) (hB8 3)
        refine hist_push2 (vk := w 8 1) (n := 0) (c2 := 2) hHB (by rw [show wB 0 = w 0 from funext fun d => q5 0 d (by omega)]; exact hN) p2 v2 (by rw [s7 3 (by omega), hB8]) (by rw [s6 3 (by omega), hB8]) s5 (fun g h1 h2 => ?_) ?_ ?_ ?_ ?_
        · rw [f7 g (by omega)]; exact funext fun c => k2 g c (by omega)
        · rw [f7 7 (by omega), k2 7 1 (by omega)]
        · rw [f7 7 (by omega), k2 7 1 (by omega)]
        · rw [wr_at, if_neg (by omega)]
        · rw [wr_at, if_neg (by omega)]
      · refine hTx.congr ?_ ?_ ?_ ?_
        · rw [f7 7 (by omega), c7 3 (by omega), q6 3 (by omega)]
        · rw [f80 19 (by omega), s7 19 (by omega)]
        · rw [f7 7 (by omega), c7 4 (by omega), q6 4 (by omega)]
        · rw [f8 14 (by omega) (by omega) (by omega), s6 14 (by omega)]
      · refine ⟨A, s1, ?_, ?_, fun i hi => ?_⟩
        · rw [f7 7 (by omega), c7 12 (by omega)]; exact s3.1
        · rw [f80 15 (by omega)]; exact s3.2.1
        · rw [f7 7 (by omega), c7 13 (by omega), c7 14 (by omega), f8 11 (by omega) (by omega) (by omega), f8 12 (by omega) (by omega) (by omega)]; exact s3.2.2 i hi
  · -- it fails
    obtain ⟨wN, A, s1, s2, s3, s4, s5, s6, s7, -⟩ := second wB hB8
    refine ⟨-10 - nI c, wB, wr wN 8 1 (fun j => if j < 640 then wN 8 2 j else wN 8 1 j), ?_, ?_, ?_⟩
    · rw [hcls, if_neg (show ¬ nI c = nI 0 from nI_ne_0 (by omega) hc0)]
    · rw [hmod wB (hB8 1), if_neg (by rw [hB8, e5, show (10 : Int32) = nI 10 from rfl, nI_eq (by omega) (by omega)]; exact hc10), copies_spec 1 2 (by omega), Option.bind_some]
      dsimp only
      rw [s2, Option.bind_some]
      dsimp only
      rw [if_neg (nI_ne_0 (by omega) hc0), copies_spec 2 1 (by omega), Option.bind_some]
    · have f7 : ∀ g c, g ≠ 8 → (wr wN 8 1 (fun j => if j < 640 then wN 8 2 j else wN 8 1 j)) g c = wB g c := fun g c h => by rw [wr_at, if_neg (by omega), s4 g c h]
      have f8 : ∀ c, c ≠ 1 → (wr wN 8 1 (fun j => if j < 640 then wN 8 2 j else wN 8 1 j)) 8 c = wN 8 c := fun c h => by rw [wr_at, if_neg (by omega)]
      refine ⟨ht, ?_, ?_, ?_, ?_⟩
      · refine hN.congr (fun c i _ => ?_) (fun j hj => ?_)
        · rw [f7 0 c (by omega), q5 0 c (by omega)]
        · rw [wr_at, if_pos ⟨rfl, rfl⟩, if_pos hj]; exact s5 j hj
      · refine hH.congr ?_ ?_ ?_ (fun g h1 h2 => funext fun c => ?_) ?_
        · rw [f7 7 1 (by omega), q6 1 (by omega)]
        · rw [f7 7 1 (by omega), q6 1 (by omega)]
        · rw [f8 0 (by omega), s7 3 (by omega)]
        · rw [f7 g c (by omega), q5 g c (by omega)]
        · rw [f8 3 (by omega), s6 3 (by omega)]
      · refine hTx.congr ?_ ?_ ?_ ?_
        · rw [f7 7 3 (by omega), q6 3 (by omega)]
        · rw [f8 0 (by omega), s7 19 (by omega)]
        · rw [f7 7 4 (by omega), q6 4 (by omega)]
        · rw [f8 14 (by omega), s6 14 (by omega)]
      · refine ⟨A, s1, ?_, ?_, fun i hi => ?_⟩
        · rw [f7 7 12 (by omega)]; exact s3.1
        · rw [f8 0 (by omega)]; exact s3.2.1
        · rw [f7 7 13 (by omega), f7 7 14 (by omega), f8 11 (by omega), f8 12 (by omega)]; exact s3.2.2 i hi
