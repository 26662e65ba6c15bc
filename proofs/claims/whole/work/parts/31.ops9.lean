/-! unport: the last row comes to the place -/
def remN (N : Nat → Nat → Int32) (P k : Nat) : Nat → Nat → Int32 := fun c i => if c = 10 ∧ i = 2 then nI P else if c = 11 ∧ i = k then N 11 P else if c = 12 ∧ i = k then N 12 P else N c i
def remV (v : Nat → Int32) (P k : Nat) : Nat → Int32 := fun j => if j = 2 then nI P else if j = 350 + 2 * k then v (350 + 2 * P) else if j = 350 + 2 * k + 1 then v (350 + 2 * P + 1) else v j
theorem crem_spec {n P k : Nat} {w : Wd} {x : Int32} (hP : P < 30) (hw : w n 10 2 = nI (P + 1)) (hk : k < P + 1) (he : w n 11 k = x) (hj : ∀ j, j < k → w n 11 j ≠ x) : ∃ w', f_X5_remove n w x = some (w n 12 k, w') ∧ (∀ g c, g ≠ n → w' g c = w g c) ∧ ∀ c i, w' n c i = remN (w n) P k c i := by
  rw [f_X5_remove, idx_T (by omega) hw hk he hj]
  simp (disch := omega) only [lit, if_true, if_false, nI_leI, nI_ltI, nI_eq, nI_neg, nI_neg', nI_negE, ng_lt, ng_le, ng_nlt, ng_nle, ib_nI, nI_clamp, nI_add, nI_mul, nI_sub, nI_nn, if_pos, if_neg, decide_eq_true_eq, leti, letl, Option.bind_some, nI_rem, hw, Nat.add_sub_cancel]
  simp only [letw]
  rw [show wup w n 10 2 (nI P) n 10 2 = nI P from by rw [wup_at, if_pos ⟨rfl, rfl, rfl⟩]]
  simp (disch := omega) only [lit, if_true, if_false, nI_leI, nI_ltI, nI_eq, nI_neg, nI_neg', nI_negE, ng_lt, ng_le, ng_nlt, ng_nle, ib_nI, nI_clamp, nI_add, nI_mul, nI_sub, nI_nn, if_pos, if_neg, decide_eq_true_eq, letw, leti, letl, Option.bind_some, nI_rem]
  rw [show wup w n 10 2 (nI P) n 11 P = w n 11 P from by rw [wup_at, if_neg (by omega)]]
  rw [show (wup (wup w n 10 2 (nI P)) n 11 k (w n 11 P)) n 10 2 = nI P from by rw [wup_at, if_neg (by omega), wup_at, if_pos ⟨rfl, rfl, rfl⟩]]
  simp (disch := omega) only [lit, if_true, if_false, nI_leI, nI_ltI, nI_eq, nI_neg, nI_neg', nI_negE, ng_lt, ng_le, ng_nlt, ng_nle, ib_nI, nI_clamp, nI_add, nI_mul, nI_sub, nI_nn, if_pos, if_neg, decide_eq_true_eq, letw, leti, letl, Option.bind_some, nI_rem]
  rw [show (wup (wup w n 10 2 (nI P)) n 11 k (w n 11 P)) n 12 P = w n 12 P from by rw [wup_at, if_neg (by omega), wup_at, if_neg (by omega)]]
  refine ⟨_, rfl, ?_, ?_⟩
  · intro g c hg
    funext i
    simp only [wup_at, hg, false_and, if_false]
  · intro c i
    simp only [wup_at, true_and, remN]
    by_cases h1 : c = 10 ∧ i = 2
    · rw [if_pos h1, if_neg (by omega), if_neg (by omega), if_pos h1]
    · rw [if_neg h1, if_neg h1]
      by_cases h2 : c = 11 ∧ i = k
      · rw [if_pos h2, if_neg (by omega), if_pos h2]
      · rw [if_neg h2, if_neg h2]
theorem rem_NR {t S R P k : Nat} {N N' : Nat → Nat → Int32} {v v' : Nat → Int32} (hV : Vd t v S R (P + 1)) (hC : Cp N v S R (P + 1)) (hk : k < P + 1) (hN : ∀ c' i, N' c' i = remN N P k c' i) (hv : ∀ j, v' j = remV v P k j) : NR t N' v' := by
  have hN' : N' = remN N P k := funext fun c => funext fun i => hN c i
  have hv' : v' = remV v P k := funext hv
  subst hN'
  subst hv'
  have hP := hV.1.2.2.1
  have vne : ∀ j, j ≠ 2 → ¬ (350 + 2 * k ≤ j ∧ j < 352 + 2 * k) → remV v P k j = v j := by
    intro j h1 h2
    unfold remV
    rw [if_neg h1, if_neg (by omega), if_neg (by omega)]
  have Nne : ∀ c' i, ¬ (11 ≤ c' ∧ c' ≤ 12 ∧ i = k) → ¬ (c' = 10 ∧ i = 2) → remN N P k c' i = N c' i := by
    intro c' i h1 h2
    unfold remN
    rw [if_neg h2, if_neg (by omega), if_neg (by omega)]
  refine ⟨S, R, P, ?_, ?_⟩
  · obtain ⟨⟨a1, a2, a3, a4, a5, a6⟩, b1, b2, b3, b4, b5, b6, b7, b8⟩ := hV
    refine ⟨⟨a1, a2, by omega, by rw [vne _ (by omega) (by omega)]; exact a4, by rw [vne _ (by omega) (by omega)]; exact a5, rfl⟩, by rw [vne _ (by omega) (by omega)]; exact b1, by rw [vne _ (by omega) (by omega)]; exact b2, ?_, ?_, ?_, rtA a2 (Nat.le_refl _) (Nat.le_refl _) (fun j h1 h2 => vne _ (by omega) (by omega)) b6, ?_, clA (by omega) (fun j h1 h2 => vne _ (by omega) (by omega)) b8⟩
    · rw [vne _ (by omega) (by omega), cntA (fun j h1 h2 => vne _ (by omega) (by omega)) 10 (by omega)]; exact b3
    · intro s hs; rw [vne _ (by omega) (by omega)]; exact b4 s hs
    · intro s hs; rw [vne _ (by omega) (by omega)]; exact b5 s hs
    · intro k' hk'
      by_cases hkP : k' = k
      · subst hkP
        obtain ⟨n', q', z1, z2, z3, z4, z5⟩ := b7 P (by omega)
        refine ⟨n', q', z1, z2, z3, ?_, ?_⟩
        · simp only [remV]; simp (disch := omega) only [lit, if_true, if_false, nI_leI, nI_ltI, nI_eq, nI_neg, nI_neg', nI_negE, ng_lt, ng_le, ng_nlt, ng_nle, ib_nI, nI_clamp, nI_add, nI_mul, nI_sub, nI_nn, if_pos, if_neg, decide_eq_true_eq, letw, leti, letl, Option.bind_some, nI_rem]; exact z4
        · simp only [remV]; simp (disch := omega) only [lit, if_true, if_false, nI_leI, nI_ltI, nI_eq, nI_neg, nI_neg', nI_negE, ng_lt, ng_le, ng_nlt, ng_nle, ib_nI, nI_clamp, nI_add, nI_mul, nI_sub, nI_nn, if_pos, if_neg, decide_eq_true_eq, letw, leti, letl, Option.bind_some, nI_rem]; exact z5
      · obtain ⟨n', q', z1, z2, z3, z4, z5⟩ := b7 k' (by omega)
        refine ⟨n', q', z1, z2, z3, ?_, ?_⟩
        · dsimp only; rw [vne _ (by omega) (by omega)]; exact z4
        · dsimp only; rw [vne _ (by omega) (by omega)]; exact z5
  · obtain ⟨⟨a1, a2, a3, a4, a5, a6⟩, ll, b1, b2, b3, b4, b5⟩ := hC
    refine ⟨⟨?_, ?_, ?_, ?_, ?_, ?_⟩, cLA ?_ (fun s hs => vne _ (by omega) (by omega)) ll, ?_, ?_, cRA hV.1.2.1 (fun c i h1 h2 => ?_) (fun j h1 h2 => vne _ (by omega) (by omega)) b3, ?_, cCA (fun c i h1 h2 => ?_) (fun j h1 h2 => vne _ (by omega) (by omega)) b5⟩
    · rw [Nne _ _ (by omega) (by omega), vne _ (by omega) (by omega)]; exact a1
    · rw [Nne _ _ (by omega) (by omega), vne _ (by omega) (by omega)]; exact a2
    · rfl
    · rw [Nne _ _ (by omega) (by omega), vne _ (by omega) (by omega)]; exact a4
    · rw [Nne _ _ (by omega) (by omega), vne _ (by omega) (by omega)]; exact a5
    · rw [Nne _ _ (by omega) (by omega), vne _ (by omega) (by omega)]; exact a6
    · rw [Nne _ _ (by omega) (by omega)]
    · intro s hs; rw [Nne _ _ (by omega) (by omega), vne _ (by omega) (by have := hV.1.1; omega)]; exact b1 s hs
    · intro s hs; rw [Nne _ _ (by omega) (by omega), vne _ (by omega) (by omega)]; exact b2 s hs
    · rw [Nne _ _ (by omega) (by omega)]
    · intro k' hk'
      by_cases hkP : k' = k
      · subst hkP
        have hb := b4 P (by omega)
        refine ⟨?_, ?_⟩
        · simp only [remN, remV]; simp (disch := omega) only [lit, if_true, if_false, nI_leI, nI_ltI, nI_eq, nI_neg, nI_neg', nI_negE, ng_lt, ng_le, ng_nlt, ng_nle, ib_nI, nI_clamp, nI_add, nI_mul, nI_sub, nI_nn, if_pos, if_neg, decide_eq_true_eq, letw, leti, letl, Option.bind_some, nI_rem, and_self]; exact hb.1
        · simp only [remN, remV]; simp (disch := omega) only [lit, if_true, if_false, nI_leI, nI_ltI, nI_eq, nI_neg, nI_neg', nI_negE, ng_lt, ng_le, ng_nlt, ng_nle, ib_nI, nI_clamp, nI_add, nI_mul, nI_sub, nI_nn, if_pos, if_neg, decide_eq_true_eq, letw, leti, letl, Option.bind_some, nI_rem, and_self]; exact hb.2
      · rw [Nne _ _ (by omega) (by omega), vne _ (by omega) (by omega), Nne _ _ (by omega) (by omega), vne _ (by omega) (by omega)]
        exact b4 k' (by omega)
    · rw [Nne _ _ (by omega) (by omega)]
theorem mrem_spec {P k n q' : Nat} {wc w2 : Wd} (hP : P < 30) (h1 : 1 ≤ n) (h2 : n ≤ 999999999) (hk : k < P + 1) (hpo : f_X10_portOf wc (nI n) = some (nI k, wc)) (k1 : f_X10_keeps 1 wc = some ((), w2)) (e8 : w2 8 1 2 = nI (P + 1)) (e812 : w2 8 1 (350 + 2 * k + 1) = nI q') : ∃ w3, f_X10_unport wc (nI n) = some (nI q', w3) ∧ (∀ g c, ¬ (g = 8 ∧ c = 1) → w3 g c = w2 g c) ∧ ∀ j, w3 8 1 j = remV (w2 8 1) P k j := by
  have i2 : ib 2 640 = true := rfl
  have t2 : Int32.toNatClampNeg 2 = 2 := rfl
  have a0 : ∀ z : Nat, (350 + 2 * nI z : Int32) = nI (350 + 2 * z) := fun z => by rw [lit, lit, nI_mul, nI_add]
  have a1 : ∀ z : Nat, (nI (350 + 2 * z) + 1 : Int32) = nI (350 + 2 * z + 1) := fun z => by rw [lit, nI_add]
  have b0 : ∀ z : Nat, z < 31 → ib (nI (350 + 2 * z)) 640 = true := fun z hz => by rw [ib_nI (by omega)]; exact decide_eq_true (by omega)
  have b1 : ∀ z : Nat, z < 31 → ib (nI (350 + 2 * z + 1)) 640 = true := fun z hz => by rw [ib_nI (by omega)]; exact decide_eq_true (by omega)
  have c0 : ∀ z : Nat, z < 31 → (nI (350 + 2 * z)).toNatClampNeg = 350 + 2 * z := fun z hz => nI_clamp (by omega)
  have c1 : ∀ z : Nat, z < 31 → (nI (350 + 2 * z + 1)).toNatClampNeg = 350 + 2 * z + 1 := fun z hz => nI_clamp (by omega)
  have n1 : ¬ (nI 1 = (0 : Int32)) := by decide
  have n2 : (0 : Int32) ≤ nI k := by rw [lit, nI_leI (by omega) (by omega)]; omega
  have m1 : (nI (P + 1) - 1 : Int32) = nI P := by rw [lit, nI_sub (by omega), Nat.add_sub_cancel]
  have q1 : wup w2 8 1 2 (nI P) 8 1 2 = nI P := by rw [wup_at, if_pos ⟨rfl, rfl, rfl⟩]
  have q2 : wup w2 8 1 2 (nI P) 8 1 (350 + 2 * P) = w2 8 1 (350 + 2 * P) := by rw [wup_at, if_neg (by omega)]
  have q3 : (wup (wup w2 8 1 2 (nI P)) 8 1 (350 + 2 * k) (w2 8 1 (350 + 2 * P))) 8 1 2 = nI P := by rw [wup_at, if_neg (by omega)]; exact q1
  have q4 : (wup (wup w2 8 1 2 (nI P)) 8 1 (350 + 2 * k) (w2 8 1 (350 + 2 * P))) 8 1 (350 + 2 * P + 1) = w2 8 1 (350 + 2 * P + 1) := by rw [wup_at, if_neg (by omega), wup_at, if_neg (by omega)]
  rw [f_X10_unport, (isNum_T (w := wc) h1 h2).2, Option.bind_some]
  dsimp only
  rw [if_neg n1, hpo, Option.bind_some]
  dsimp only
  rw [if_pos n2, k1, Option.bind_some]
  dsimp only
  rw [a0, a1, if_pos (b1 k (by omega)), c1 k (by omega), e812, leti, if_pos i2, if_pos i2, t2, e8, m1, letw, if_pos i2, q1, a0, if_pos (b0 P (by omega)), c0 P (by omega), if_pos (b0 k (by omega)), c0 k (by omega), q2, letw, if_pos i2, q3, a0, a1, if_pos (b1 P (by omega)), c1 P (by omega), if_pos (b1 k (by omega)), q4, letw]
  refine ⟨_, rfl, ?_, ?_⟩
  · intro g c hg
    rw [wup_row, if_neg hg, wup_row, if_neg hg, wup_row, if_neg hg]
  · intro j
    rw [wup_at, wup_at, wup_at, remV]
    by_cases j1 : j = 350 + 2 * k + 1
    · rw [if_pos ⟨rfl, rfl, j1⟩, if_neg (by omega), if_neg (by omega), if_pos j1]
    · rw [if_neg (by omega)]
      by_cases j0 : j = 350 + 2 * k
      · rw [if_pos ⟨rfl, rfl, j0⟩, if_neg (by omega), if_pos j0]
      · rw [if_neg (by omega)]
        by_cases j2 : j = 2
        · rw [if_pos ⟨rfl, rfl, j2⟩, if_pos j2]
        · rw [if_neg (by omega), if_neg j2, if_neg j0, if_neg j1]
theorem op_unport {t : Nat} {w : Wd} (H : Inv t w) (x1 : Int32) : ∃ r w1 w2, f_X9_unport w x1 = some (r, w1) ∧ f_X10_unport w1 x1 = some (r, w2) ∧ Inv t w2 := by
  obtain ⟨S, R, P, hV, hC⟩ := H.now
  have hS := hV.1.1
  have hP := hV.1.2.2.1
  have eP8 : w 8 1 2 = nI P := hV.1.2.2.2.2.2
  have eP : w 0 10 2 = nI P := hC.1.2.2.1.trans eP8
  have eq11 : ∀ j, j < P → w 0 11 j = w 8 1 (350 + 2 * j) := fun j hj => (hC.2.2.2.2.2.1 j hj).1
  rcases rg x1 1 999999999 with ⟨n, h1, h2, rfl⟩ | h
  · rcases first (p := fun j => w 0 11 j = nI n) P with ⟨k, hk, he, hj⟩ | hj
    · obtain ⟨P, rfl⟩ : ∃ z, P = z + 1 := ⟨P - 1, by omega⟩
      obtain ⟨w1, p1, p2, p3, p4⟩ := act_push H
      obtain ⟨wc, c1, c2, c3⟩ := crem_spec (n := 0) (w := w1) (x := nI n) (by omega) (by rw [p3]; exact eP) hk (by rw [p3]; exact he) (by rw [p3]; exact hj)
      have hc8 : wc 8 = w 8 := by funext c; rw [c2 8 c (by omega), p4]
      obtain ⟨w2, k1, k2, k3, k4⟩ := act_keep (wc := wc) H hc8
      obtain ⟨n', q', z1, z2, z3, z4, z5⟩ := hV.2.2.2.2.2.2.2.1 k hk
      have e12 : w 0 12 k = nI q' := (hC.2.2.2.2.2.1 k hk).2.trans z5
      have e812 : w 8 1 (350 + 2 * k + 1) = nI q' := z5
      have hpo := por_T (w := wc) (x := nI n) hP (by rw [hc8]; exact eP8) hk (by rw [hc8, ← eq11 k hk]; exact he) (fun j hjk => by rw [hc8, ← eq11 j (by omega)]; exact hj j hjk)
      have hm := mrem_spec (by omega) h1 h2 hk hpo k1 (by rw [k3]; exact eP8) (by rw [k3]; exact e812)
      rw [k3] at hm
      obtain ⟨w3, m1, m2, m3⟩ := hm
      refine ⟨nI q', wc, w3, ?_, m1, ?_⟩
      · rw [f_X9_unport]
        rw [p3, e12] at c1
        simp (disch := omega) only [lit, if_true, if_false, nI_leI, nI_ltI, nI_eq, nI_neg, nI_neg', nI_negE, ng_lt, ng_le, ng_nlt, ng_nle, ib_nI, nI_clamp, nI_add, nI_mul, nI_sub, nI_nn, if_pos, if_neg, decide_eq_true_eq, letw, leti, letl, Option.bind_some, nI_rem, (isNum_T (w := w) h1 h2).1, swOf_T hP eP hk he hj, e12, p1, c1]
      · refine act_inv H p2 c2 k2 m2 (Nat.le_refl t) H.1 ?_
        refine rem_NR hV hC hk (fun c i => ?_) m3
        rw [show w3 0 c = w2 0 c from m2 0 c (by omega), k4 0 (by omega), c3, p3]
    · refine ⟨-9, w, w, ?_, ?_, H⟩
      · rw [f_X9_unport]
        simp (disch := omega) only [lit, if_true, if_false, nI_leI, nI_ltI, nI_eq, nI_neg, nI_neg', nI_negE, ng_lt, ng_le, ng_nlt, ng_nle, ib_nI, nI_clamp, nI_add, nI_mul, nI_sub, nI_nn, if_pos, if_neg, decide_eq_true_eq, letw, leti, letl, Option.bind_some, nI_rem, (isNum_T (w := w) h1 h2).1, swOf_F hP eP hj]
      · have hpo := por_F (w := w) (x := nI n) hP eP8 (fun j hjP => by rw [← eq11 j hjP]; exact hj j hjP)
        rw [f_X10_unport, (isNum_T (w := w) h1 h2).2, Option.bind_some]
        dsimp only
        rw [if_neg (by decide), hpo, Option.bind_some]
        dsimp only
        rw [if_neg (by decide)]
  · refine ⟨-1, w, w, ?_, ?_, H⟩
    · rw [f_X9_unport]
      simp (disch := omega) only [lit, if_true, if_false, nI_leI, nI_ltI, nI_eq, nI_neg, nI_neg', nI_negE, ng_lt, ng_le, ng_nlt, ng_nle, ib_nI, nI_clamp, nI_add, nI_mul, nI_sub, nI_nn, if_pos, if_neg, decide_eq_true_eq, letw, leti, letl, Option.bind_some, nI_rem, (isNum_F (w := w) h).1]
    · rw [f_X10_unport, (isNum_F (w := w) h).2, Option.bind_some]
      dsimp only
      rw [if_pos (by decide)]
