/-- what a journey is in: the row and the network at its start, the number, the limit, busy or not -/
def Jc (t S R P T n L Lim bz : Nat) (v0 : Nat → Int32) (N0 : Nat → Nat → Int32) : Prop :=
  Vd t v0 S R P ∧ Cp N0 v0 S R P ∧ (v0 4 = nI T ∧ T ≤ 1000000) ∧ (v0 3 = nI Lim ∧ 1 ≤ Lim ∧ Lim ≤ 6) ∧ (1 ≤ n ∧ n ≤ 999999999 ∧ IsLen n L ∧ L ≤ 9) ∧ (bz = 0 ∨ bz = 5) ∧ (∀ w : Wd, w 0 = N0 → f_X0_isBusy 0 w (nI n) = some (if bz = 5 then nI 1 else nI 0, w)) ∧ ∀ w : Wd, (∀ j, 420 ≤ j → j < 560 → w 8 1 j = v0 j) → f_X10_isBusy w (nI n) = some (if bz = 5 then nI 1 else nI 0, w)
def Wc (T n bz : Nat) (N0 : Nat → Nat → Int32) (wc : Wd) : Prop := wc 0 = N0 ∧ wc 7 11 3 = nI n ∧ wc 7 11 4 = nI (bandN T) ∧ wc 7 11 5 = nI bz
def Wm (t S R P M : Nat) (v0 : Nat → Int32) (wm : Wd) : Prop := Vd t (wm 8 1) S R P ∧ (∀ j, (∀ r, r < 40 → j ≠ 30 + 8 * r + 7) → wm 8 1 j = v0 j) ∧ ∀ r, r < R → M.testBit (owv v0 r) = false → wm 8 1 (30 + 8 * r + 7) = v0 (30 + 8 * r + 7)
def Mk (d M : Nat) (wm : Wd) : Prop := M < 256 ∧ pop M = d ∧ ∀ a, a < 8 → (M.testBit a = true ↔ ∃ e, e < d ∧ wm 8 5 e = nI a)
def Ar (d : Nat) (w w' : Wd) : Prop := (∀ g c, g ≠ 8 → w' g c = w g c) ∧ (∀ c, (c = 1 ∨ c = 2 ∨ c = 3 ∨ 10 ≤ c) → w' 8 c = w 8 c) ∧ (∀ i, i ≠ 5 → i ≠ 12 → w' 8 0 i = w 8 0 i) ∧ (∀ e, e < d → ∀ c, (c = 5 ∨ c = 6 ∨ c = 8 ∨ c = 9) → w' 8 c e = w 8 c e) ∧ ∀ j, j < 40 * d → w' 8 7 j = w 8 7 j
def Fr (wm : Wd) (d a : Nat) (mk : Option Nat) (K : Nat) (ls : Nat → Nat) (i : Nat) : Prop := wm 8 5 d = nI a ∧ wm 8 6 d = mM mk ∧ wm 8 8 d = nI K ∧ wm 8 9 d = nI i ∧ ∀ j, j < K → wm 8 7 (40 * d + j) = nI (ls j)
theorem Wm.low {t S R P M : Nat} {v0 : Nat → Int32} {wm : Wd} (h : Wm t S R P M v0 wm) {j : Nat} (hj : j < 30 ∨ 350 ≤ j) : wm 8 1 j = v0 j := h.2.1 j (fun r hr => by omega)
theorem Wm.rt {t S R P M : Nat} {v0 : Nat → Int32} {wm : Wd} (h : Wm t S R P M v0 wm) {r k : Nat} (hk : k < 7) : wm 8 1 (30 + 8 * r + k) = v0 (30 + 8 * r + k) := h.2.1 _ (fun r' hr' => by omega)
theorem mark_both {t S R P a n : Nat} {v0 : Nat → Int32} {N0 : Nat → Nat → Int32} {mk : Option Nat} (hV : Vd t v0 S R P) (hC : Cp N0 v0 S R P) (ha : a < S) (hk : okM S mk) : ∃ mk', okM S mk' ∧ (∀ wc : Wd, wc 0 = N0 → f_X4_markAt 0 wc (nI a) (nI n) (cM mk) = some (cM mk', wc)) ∧
    ∀ (wm : Wd) (y4 : Int32), (∀ j, j < 30 ∨ 350 ≤ j → wm 8 1 j = v0 j) → ((f_X10_portOf wm (nI n)).bind fun q2 =>
      if 0 ≤ mM mk then
        j_X10_arrives_100 q2.2 (nI a) (nI n) y4 (mM mk)
      else
        if ib (10 + nI a) 640 = true then
        if (q2.2 8 1 (Int32.toNatClampNeg (10 + nI a))) = 1 then
          if q2.1 < 0 then
            j_X10_arrives_100 q2.2 (nI a) (nI n) y4 (mM mk)
          else
            if ib ((350 + (2 * q2.1)) + 1) 640 = true then
            leti (q2.2 8 1 (Int32.toNatClampNeg ((350 + (2 * q2.1)) + 1))) fun u10 =>
            j_X10_arrives_100 q2.2 (nI a) (nI n) y4 u10
            else none
        else
          j_X10_arrives_100 q2.2 (nI a) (nI n) y4 (mM mk)
        else none) = j_X10_arrives_100 wm (nI a) (nI n) y4 (mM mk') := by
  have hS := hV.1.1
  have hP := hV.1.2.2.1
  have ePv : v0 2 = nI P := hV.1.2.2.2.2.2
  have hpt := hV.2.2.2.2.2.2.2.1
  have e10 : (10 + nI a : Int32) = nI (10 + a) := nI_add 10 a
  have pm : ∀ (wm : Wd), (∀ j, j < 30 ∨ 350 ≤ j → wm 8 1 j = v0 j) → ∃ z, f_X10_portOf wm (nI n) = some (z, wm) ∧ ((z = -1 ∧ ∀ j, j < P → v0 (350 + 2 * j) ≠ nI n) ∨ ∃ k, k < P ∧ z = nI k ∧ v0 (350 + 2 * k) = nI n ∧ ∀ j, j < k → v0 (350 + 2 * j) ≠ nI n) := by
    intro wm hw
    rcases first (p := fun k => v0 (350 + 2 * k) = nI n) P with ⟨k, k1, k2, k3⟩ | h
    · exact ⟨nI k, por_T hP (by rw [hw _ (by omega)]; exact ePv) k1 (by rw [hw _ (by omega)]; exact k2) (fun j hj => by rw [hw _ (by omega)]; exact k3 j hj), Or.inr ⟨k, k1, rfl, k2, k3⟩⟩
    · exact ⟨-1, por_F hP (by rw [hw _ (by omega)]; exact ePv) (fun j hj => by rw [hw _ (by omega)]; exact h j hj), Or.inl ⟨rfl, h⟩⟩
  cases mk with
  | some q =>
    have hq := hk q rfl
    refine ⟨some q, hk, fun wc h0 => ?_, fun wm y4 hw => ?_⟩
    · rw [f_X4_markAt, cM, if_neg (by rw [show (-9 : Int32) = - nI 9 from rfl, nI_neg (by omega) (by omega) (by omega)]; exact id)]
    · obtain ⟨z, p1, -⟩ := pm wm hw
      rw [p1, Option.bind_some]
      dsimp only
      rw [if_pos (show (0 : Int32) ≤ mM (some q) from nI_pos' (n := q) (by omega))]
  | none =>
    by_cases hl : v0 (10 + a) = nI 1
    · rcases first (p := fun k => v0 (350 + 2 * k) = nI n) P with ⟨k, k1, k2, k3⟩ | h
      · obtain ⟨n', q, y1, y2, y3, y4, y5⟩ := hpt k k1
        dsimp only at y5
        refine ⟨some q, fun q' h => by cases h; exact y3, fun wc h0 => ?_, fun wm y4 hw => ?_⟩
        · have hlk := looks_spec (w := wc) (n := 0) hS (by rw [h0]; exact hC.1.1.trans hV.1.2.2.2.1) (by rw [h0]; exact hC.2.1) ha
          rw [if_pos hl] at hlk
          have e11 : ∀ j, j < P → wc 0 11 j = v0 (350 + 2 * j) := fun j hj => by rw [h0]; exact (hC.2.2.2.2.2.1 j hj).1
          rw [f_X4_markAt, cM, if_pos rfl, hlk, if_neg (by decide), swOf_T hP (by rw [h0]; exact hC.1.2.2.1.trans ePv) k1 (by rw [e11 k k1]; exact k2) (fun j hj => by rw [e11 j (by omega)]; exact k3 j hj), Option.bind_some, h0, (hC.2.2.2.2.2.1 k k1).2, y5, cM]
        · obtain ⟨z, p1, p2⟩ := pm wm hw
          have hz : z = nI k := by
            rcases p2 with ⟨-, p2⟩ | ⟨k', z1, z2, z3, z4⟩
            · exact absurd k2 (p2 k k1)
            · have : k' = k := by
                rcases (show k' < k ∨ k' = k ∨ k < k' by omega) with c | c | c
                · exact absurd z3 (k3 k' c)
                · exact c
                · exact absurd k2 (z4 k c)
              rw [z2, this]
          rw [p1, Option.bind_some]
          dsimp only
          rw [if_neg (show ¬ (0 : Int32) ≤ mM none from by decide), e10, if_pos (ibT (by omega) (by omega)), nI_clamp (by omega), if_pos (by rw [hw _ (by omega)]; exact hl), hz, if_neg (nI_pos (by omega)), show (350 + 2 * nI k + 1 : Int32) = nI (350 + 2 * k + 1) from by rw [lit, lit, lit, nI_mul, nI_add, nI_add], if_pos (ibT (by omega) (by omega)), nI_clamp (by omega), hw _ (by omega), leti, y5, mM]
      · refine ⟨none, hk, fun wc h0 => ?_, fun wm y4 hw => ?_⟩
        · have hlk := looks_spec (w := wc) (n := 0) hS (by rw [h0]; exact hC.1.1.trans hV.1.2.2.2.1) (by rw [h0]; exact hC.2.1) ha
          rw [if_pos hl] at hlk
          have e11 : ∀ j, j < P → wc 0 11 j = v0 (350 + 2 * j) := fun j hj => by rw [h0]; exact (hC.2.2.2.2.2.1 j hj).1
          rw [f_X4_markAt, cM, if_pos rfl, hlk, if_neg (by decide), swOf_F hP (by rw [h0]; exact hC.1.2.2.1.trans ePv) (fun j hj => by rw [e11 j (by omega)]; exact h j hj), Option.bind_some]
        · obtain ⟨z, p1, p2⟩ := pm wm hw
          have hz : z = -1 := by
            rcases p2 with ⟨p2, -⟩ | ⟨k', z1, z2, z3, z4⟩
            · exact p2
            · exact absurd z3 (h k' z1)
          rw [p1, Option.bind_some]
          dsimp only
          rw [if_neg (show ¬ (0 : Int32) ≤ mM none from by decide), e10, if_pos (ibT (by omega) (by omega)), nI_clamp (by omega), if_pos (by rw [hw _ (by omega)]; exact hl), hz, if_pos (by decide)]
    · refine ⟨none, hk, fun wc h0 => ?_, fun wm y4 hw => ?_⟩
      · have hlk := looks_spec (w := wc) (n := 0) hS (by rw [h0]; exact hC.1.1.trans hV.1.2.2.2.1) (by rw [h0]; exact hC.2.1) ha
        rw [if_neg hl] at hlk
        rw [f_X4_markAt, cM, if_pos rfl, hlk, if_pos (by decide)]
      · obtain ⟨z, p1, p2⟩ := pm wm hw
        rw [p1, Option.bind_some]
        dsimp only
        rw [if_neg (show ¬ (0 : Int32) ≤ mM none from by decide), e10, if_pos (ibT (by omega) (by omega)), nI_clamp (by omega), if_neg (by rw [hw _ (by omega)]; exact hl)]
theorem av_T {wm : Wd} {a d : Nat} {y2 y3 : Int32} (hd : d ≤ 8) : ∀ (m e fu : Nat), d - e = m → m < fu → (∃ e', e ≤ e' ∧ e' < d ∧ wm 8 5 e' = nI a) → h_X10_arrives_11 fu wm (nI a) y2 y3 (nI d) (nI e) = some (3, wm) := by
  intro m
  induction m with
  | zero =>
    intro e fu h1 h2 ⟨e', x1, x2, x3⟩
    omega
  | succ m ih =>
    intro e fu h1 h2 ⟨e', x1, x2, x3⟩
    obtain ⟨fu, rfl⟩ : ∃ z, fu = z + 1 := ⟨fu - 1, by omega⟩
    rw [h_X10_arrives_11, b_X10_arrives_11, if_neg (by rw [nI_leI (by omega) (by omega)]; omega), if_pos (ibT (by omega) (by omega)), nI_clamp (by omega)]
    by_cases he : wm 8 5 e = nI a
    · rw [if_pos he]
    · rw [if_neg he, nI_1]
      refine ih (e + 1) fu (by omega) (by omega) ⟨e', ?_, x2, x3⟩
      by_cases hx : e' = e
      · rw [hx] at x3; exact absurd x3 he
      · omega
theorem av_F {wm : Wd} {a d : Nat} {y2 y3 : Int32} (hd : d ≤ 8) : ∀ (m e fu : Nat), d - e = m → e ≤ d → m < fu → (∀ e', e ≤ e' → e' < d → wm 8 5 e' ≠ nI a) → h_X10_arrives_11 fu wm (nI a) y2 y3 (nI d) (nI e) = b_X10_arrives_11 (fun _ _ _ _ _ _ => none) wm (nI a) y2 y3 (nI d) (nI d) := by
  intro m
  induction m with
  | zero =>
    intro e fu h1 h1' h2 h
    obtain ⟨fu, rfl⟩ : ∃ z, fu = z + 1 := ⟨fu - 1, by omega⟩
    have : e = d := by omega
    subst this
    have hle : nI e ≤ nI e := by rw [nI_leI (by omega) (by omega)]; omega
    rw [h_X10_arrives_11, b_X10_arrives_11, b_X10_arrives_11, if_pos hle, if_pos hle]
  | succ m ih =>
    intro e fu h1 h1' h2 h
    obtain ⟨fu, rfl⟩ : ∃ z, fu = z + 1 := ⟨fu - 1, by omega⟩
    rw [h_X10_arrives_11, b_X10_arrives_11, if_neg (by rw [nI_leI (by omega) (by omega)]; omega), if_pos (ibT (by omega) (by omega)), nI_clamp (by omega), if_neg (h e (by omega) (by omega)), nI_1]
    exact ih (e + 1) fu (by omega) (by omega) (by omega) (fun e' x1 x2 => h e' (by omega) x2)
theorem arr_both {t S R P T n L Lim bz d a M x : Nat} {v0 : Nat → Int32} {N0 : Nat → Nat → Int32} {wc wm : Wd} {mk : Option Nat} (J : Jc t S R P T n L Lim bz v0 N0) (hc : Wc T n bz N0 wc) (hm : Wm t S R P M v0 wm) (hk : Mk d M wm) (hd : d ≤ Lim) (ed : wm 8 0 12 = nI d - nI 1) (ha : a < S) (hmk : okM S mk) :
    (∃ c, (c = 3 ∨ c = 4) ∧ f_X3_arrive (x + 1) 0 wc (nI a) (nI M) (cM mk) = some (nI c, wc) ∧ f_X10_arrives wm (nI a) (nI n) (mM mk) = some (nI c, wm)) ∨
    (f_X3_arrive (x + 1) 0 wc (nI a) (nI M) (cM mk) = some (nI bz, wup wc 7 11 2 (nI d)) ∧ f_X10_arrives wm (nI a) (nI n) (mM mk) = some (nI 0, wm)) ∨
    (∃ wm', f_X3_arrive (x + 1) 0 wc (nI a) (nI M) (cM mk) = some (nI 1, wc) ∧ f_X10_arrives wm (nI a) (nI n) (mM mk) = some (nI 1, wm') ∧ Ar d wm wm' ∧ wm' 8 0 12 = wm 8 0 12) ∨
    (∃ mk' K ls wm', d < Lim ∧ M.testBit a = false ∧ 0 < K ∧ okM S mk' ∧ Srt (mb (dn n L mk') a R (owv v0) (prv v0)) (cov v0 (bandN T)) ls K R ∧ f_X3_arrive (x + 1) 0 wc (nI a) (nI M) (cM mk) = (h_X3_tryRoutes_45 0 (f_X3_arrive x) FU wc (nI a) (nI M) (cM mk') (cP (mx (ft (dn n L mk') a (owv v0) (prv v0)) (prv v0) R)) (nI (ls 0)) (nI 1) (nI 0)).bind (fun q => some (q.1, q.2)) ∧ f_X10_arrives wm (nI a) (nI n) (mM mk) = some (-1, wm') ∧ Ar d wm wm' ∧ wm' 8 0 12 = nI d ∧ Fr wm' d a mk' K ls 0) := by
  obtain ⟨hV, hC, ⟨eT, hT⟩, ⟨eL, hL1, hL6⟩, ⟨hn1, hn9, hnL, hL9⟩, hbz, hb1, hb2⟩ := J
  obtain ⟨c0, c3, c4, c5⟩ := hc
  obtain ⟨k1, k2, k3⟩ := hk
  have hS := hV.1.1
  have hR := hV.1.2.1
  have hCc : Cp (wc 0) v0 S R P := by rw [c0]; exact hC
  have hlow : ∀ j, j < 30 ∨ 350 ≤ j → wm 8 1 j = v0 j := fun j hj => hm.low hj
  have e7 : p_X4_hopLimit 0 wc = nI Lim := by rw [p_X4_hopLimit, c0, hC.1.2.2.2.1, eL]
  have hstart : f_X10_arrives wm (nI a) (nI n) (mM mk) = h_X10_arrives_11 FU wm (nI a) (nI n) (mM mk) (nI d) (nI 0) := by
    rw [f_X10_arrives, ed, leti, show (nI d - nI 1 + 1 : Int32) = nI d from by rw [show (1 : Int32) = nI 1 from rfl, Int32.sub_add_cancel]]; rfl
  by_cases hv : M.testBit a = true
  · obtain ⟨e, he1, he2⟩ := (k3 a (by omega)).mp hv
    refine Or.inl ⟨3, Or.inl rfl, ?_, ?_⟩
    · rw [f_X3_arrive, b_X3_arrive, leti, if_neg (by rw [mask_tst k1 (by omega), hv]; exact Bool.noConfusion)]; rfl
    · rw [hstart, av_T (by omega) d 0 FU rfl (by rw [FU_eq]; omega) ⟨e, by omega, he1, he2⟩]; rfl
  have hv' : M.testBit a = false := by simpa using hv
  have hnv : ∀ e', 0 ≤ e' → e' < d → wm 8 5 e' ≠ nI a := fun e' _ h2 h3 => hv ((k3 a (by omega)).mpr ⟨e', h2, h3⟩)
  have hav := av_F (y2 := nI n) (y3 := mM mk) (show d ≤ 8 by omega) d 0 FU rfl (by omega) (by rw [FU_eq]; omega) hnv
  rw [b_X10_arrives_11, if_pos (by rw [nI_leI (by omega) (by omega)]; omega), if_pos (show ib 3 640 = true from rfl), show Int32.toNatClampNeg 3 = 3 from rfl] at hav
  have hcls : f_X3_arrive (x + 1) 0 wc (nI a) (nI M) (cM mk) = if nI Lim ≤ nI d then some (4, wc) else if nI d < 6 then (f_X4_markAt 0 wc (nI a) (wc 7 11 3) (cM mk)).bind fun q2 => if q2.1 = nI a then letw (wup q2.2 7 11 2 (nI d)) fun w4 => some (w4 7 11 5, w4) else (f_X3_tryRoutes (f_X3_arrive x) 0 q2.2 (nI a) (nI M) q2.1).bind fun q3 => some (q3.1, q3.2) else some (4, wc) := by
    rw [f_X3_arrive, b_X3_arrive, leti, if_pos (by rw [mask_tst k1 (by omega)]; exact hv'), e7, bc_spec wc M k1, k2]
  by_cases hdl : d = Lim
  · refine Or.inl ⟨4, Or.inr rfl, ?_, ?_⟩
    · rw [hcls, if_pos (by rw [nI_leI (by omega) (by omega)]; omega)]; rfl
    · rw [hstart, hav, if_pos (by rw [hlow 3 (by omega), eL, hdl])]; rfl
  obtain ⟨mk', m1, m2, m3⟩ := mark_both (n := n) hV hC ha hmk
  rw [if_neg (by rw [hlow 3 (by omega), eL, nI_eq (by omega) (by omega)]; exact hdl), m3 wm (nI d) hlow] at hav
  rw [if_neg (by rw [nI_leI (by omega) (by omega)]; omega), if_pos (by rw [lit, nI_ltI (by omega) (by omega)]; omega), c3, m2 wc c0, Option.bind_some] at hcls
  dsimp only at hcls
  by_cases hma : mk' = some a
  · refine Or.inr (Or.inl ⟨?_, ?_⟩)
    · rw [hcls, hma, cM, if_pos rfl, letw, wup_at, if_neg (by omega), c5]
    · rw [hstart, hav, j_X10_arrives_100, hma, mM, if_pos rfl]; rfl
  have hca : ¬ cM mk' = nI a := by
    cases mk' with
    | none => rw [cM, show (-9 : Int32) = - nI 9 from rfl, nI_neg' (by omega) (by omega) (by omega)]; exact id
    | some q => rw [cM, nI_eq (by have := m1 q rfl; omega) (by omega)]; exact fun h => hma (by rw [h])
  have hmma : ¬ mM mk' = nI a := by
    cases mk' with
    | none => rw [mM, show (-1 : Int32) = - nI 1 from rfl, nI_neg' (by omega) (by omega) (by omega)]; exact id
    | some q => rw [mM, nI_eq (by have := m1 q rfl; omega) (by omega)]; exact fun h => hma (by rw [h])
  rw [if_neg hca] at hcls
  obtain ⟨m, w1, d1, d2, d3⟩ := dials_spec (w := wm) hnL hn9 hL9 hS m1
  have e81 : w1 8 1 = wm 8 1 := d3.1 8 1 (by omega)
  have hct : Ct w1 R (bandN T) T (owv v0) (prv v0) (cov v0 (bandN T)) := ct_of hV hT eT (by rw [e81]; exact hlow 1 (by omega)) (by rw [e81]; exact hlow 4 (by omega)) (fun r k _ hk => by rw [e81]; exact hm.rt hk)
  have hcc := cc_of hV hCc (bandN_lt T)
  obtain ⟨K, ls, l', g1, g2, g3, g4⟩ := gathers_spec (base := 40 * d) (D := dn n L mk') hct d2 (show a < 8 by omega) (by omega)
  have hK := g2.1
  have hD13 := dn_lt hnL hL9 hS m1
  rw [f_X3_tryRoutes, c3, digitsOf_spec hnL hn9 hL9 hS m1, Option.bind_some] at hcls
  dsimp only at hcls
  rw [longest_spec hcc hD13 (by omega), Option.bind_some] at hcls
  dsimp only at hcls
  rw [c4, (choice_spec (i := 0) hcc (by omega) g2).1, Option.bind_some] at hcls
  dsimp only at hcls
  rw [j_X10_arrives_100, if_neg hmma, d1, Option.bind_some] at hav
  dsimp only at hav
  rw [show (40 * nI d : Int32) = nI (40 * d) from by rw [lit, nI_mul], g1, Option.bind_some] at hav
  dsimp only at hav
  have hF1 : Ar d wm (wr w1 8 7 l') := by
    refine ⟨fun g c hg => ?_, fun c h => ?_, fun i h5 h12 => ?_, fun e he c h => ?_, fun j hj => ?_⟩
    · rw [wr_at, if_neg (by omega), d3.1 g c (by omega)]
    · rw [wr_at, if_neg (by omega), d3.1 8 c (by omega)]
    · rw [wr_at, if_neg (by omega), d3.2 i h5]
    · rw [wr_at, if_neg (by omega), d3.1 8 c (by omega)]
    · rw [wr_at, if_pos ⟨rfl, rfl⟩, g4 j (by omega), d3.1 8 7 (by omega)]
  have e12 : (wr w1 8 7 l') 8 0 12 = wm 8 0 12 := by rw [wr_at, if_neg (by omega), d3.2 12 (by omega)]
  by_cases hK0 : K = 0
  · subst hK0
    refine Or.inr (Or.inr (Or.inl ⟨wr w1 8 7 l', ?_, ?_, hF1, e12⟩))
    · rw [hcls, show chI ls 0 0 = none from rfl, show FU = (FU - 1) + 1 from by rw [FU_eq], h_X3_tryRoutes_45, b_X3_tryRoutes_45, if_neg (by decide), if_pos (show cM none = -9 from rfl), Option.bind_some]; rfl
    · rw [hstart, hav, if_pos (show nI 0 = 0 from rfl)]; rfl
  · rw [if_neg (by rw [show (0 : Int32) = nI 0 from rfl, nI_eq (by omega) (by omega)]; exact hK0), letw, if_pos (ibT (by omega) (by omega)), nI_clamp (by omega), letw, if_pos (ibT (by omega) (by omega)), letw, if_pos (ibT (by omega) (by omega)), letw, if_pos (ibT (by omega) (by omega)), letw] at hav
    rw [show chI ls K 0 = some (ls 0) from if_pos (by omega), cM] at hcls
    refine Or.inr (Or.inr (Or.inr ⟨mk', K, ls, _, by omega, hv', by omega, m1, g2, hcls, hstart.trans hav, ⟨fun g c hg => ?_, fun c h => ?_, fun i h5 h12 => ?_, fun e he c h => ?_, fun j hj => ?_⟩, ?_, ?_, ?_, ?_, ?_, fun j hj => ?_⟩))
    · rw [wup_row, if_neg (by omega), wup_row, if_neg (by omega), wup_row, if_neg (by omega), wup_row, if_neg (by omega), wup_row, if_neg (by omega)]; exact hF1.1 g c hg
    · rw [wup_row, if_neg (by omega), wup_row, if_neg (by omega), wup_row, if_neg (by omega), wup_row, if_neg (by omega), wup_row, if_neg (by omega)]; exact hF1.2.1 c h
    · rw [wup_at, if_neg (by omega), wup_at, if_neg (by omega), wup_at, if_neg (by omega), wup_at, if_neg (by omega), wup_at, if_neg (by omega)]; exact hF1.2.2.1 i h5 h12
    · rw [wup_at, if_neg (by omega), wup_at, if_neg (by omega), wup_at, if_neg (by omega), wup_at, if_neg (by omega), wup_at, if_neg (by omega)]; exact hF1.2.2.2.1 e he c h
    · rw [wup_at, if_neg (by omega), wup_at, if_neg (by omega), wup_at, if_neg (by omega), wup_at, if_neg (by omega), wup_at, if_neg (by omega)]; exact hF1.2.2.2.2 j hj
    · rw [wup_at, if_neg (by omega), wup_at, if_neg (by omega), wup_at, if_neg (by omega), wup_at, if_neg (by omega), wup_at, if_pos (by omega)]
    · rw [wup_at, if_neg (by omega), wup_at, if_neg (by omega), wup_at, if_neg (by omega), wup_at, if_pos (by omega)]
    · rw [wup_at, if_neg (by omega), wup_at, if_neg (by omega), wup_at, if_pos (by omega)]
    · rw [wup_at, if_neg (by omega), wup_at, if_pos (by omega)]
    · rw [wup_at, if_pos (by omega)]; rfl
    · rw [wup_at, if_neg (by omega), wup_at, if_neg (by omega), wup_at, if_neg (by omega), wup_at, if_neg (by omega), wup_at, if_neg (by omega), wr_at, if_pos ⟨rfl, rfl⟩]; exact g3 j hj
