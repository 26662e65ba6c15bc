theorem cStart_T {n p m s : Nat} {w : Wd} (hp : p < 10) (hm : 1 ≤ m ∧ m < 2 ^ 31) (e : w n 14 p = nI m) (es : w n 15 p = nI s) : f_X0_startOf n w (nI p) = some (nI s, w) := by
  rw [f_X0_startOf, cHas_T hp hm e, Option.bind_some]
  dsimp only
  rw [if_neg (by decide), if_pos (ibT hp (by omega)), nI_clamp (by omega), es]
theorem remove_T {n p m : Nat} {w : Wd} (hp : p < 10) (hm : 1 ≤ m ∧ m < 2 ^ 31) (e : w n 14 p = nI m) : f_X0_remove n w (nI p) = some ((), wup (wup w n 14 p (nI 0)) n 13 4 (w n 13 4 - nI 1)) := by
  rw [f_X0_remove, cHas_T hp hm e, Option.bind_some]
  dsimp only
  rw [if_neg (by decide), if_pos (ibT hp (by omega)), nI_clamp (by omega), letw, letw, wup_at, if_neg (by omega)]
  rfl
theorem end_NR {t S R P p : Nat} {N N' : Nat → Nat → Int32} {v : Nat → Int32} (hp : p < 10) (hV : Vd t v S R P) (hC : Cp N v S R P) (e1 : v (420 + 14 * p) = nI 1) (eN : ∀ c i, N' c i = if c = 13 ∧ i = 4 then N 13 4 - nI 1 else if c = 14 ∧ i = p then nI 0 else N c i) : NR t N' (upd (upd v (420 + 14 * p) (nI 0)) 5 (v 5 - nI 1)) := by
  obtain ⟨⟨a1, a2, a3, a4, a5, a6⟩, b1, b2, b3, b4, b5, b6, b7, b8⟩ := hV
  obtain ⟨⟨d1, d2, d3, d4, d5, d6⟩, ll, e1', e2, e3, e4, e5⟩ := hC
  have vne : ∀ j, j ≠ 5 → j ≠ 420 + 14 * p → upd (upd v (420 + 14 * p) (nI 0)) 5 (v 5 - nI 1) j = v j := fun j h1 h2 => by rw [upd_ne h1, upd_ne h2]
  have hcnt : cnt (upd (upd v (420 + 14 * p) (nI 0)) 5 (v 5 - nI 1)) 10 + 1 = cnt v 10 := by
    rw [cntA (v := upd v (420 + 14 * p) (nI 0)) (fun j h1 h2 => upd_ne (by omega)) 10 (by omega)]
    exact (cnt_clear e1 10).2 hp
  refine ⟨S, R, P, ⟨⟨a1, a2, a3, ?_, ?_, ?_⟩, ?_, ?_, ?_, ?_, ?_, rtA a2 (Nat.le_refl _) (Nat.le_refl _) (fun j h1 h2 => vne _ (by omega) (by omega)) b6, ptA a3 (Nat.le_refl _) (fun j h1 h2 => vne _ (by omega) (by omega)) b7, ?_⟩, ⟨⟨?_, ?_, ?_, ?_, ?_, ?_⟩, cLA ?_ (fun s hs => vne _ (by omega) (by omega)) ll, ?_, ?_, cRA a2 (fun c i h1 h2 => ?_) (fun j h1 h2 => vne _ (by omega) (by omega)) e3, cPA a3 (fun c i h1 h2 => ?_) (fun j h1 h2 => vne _ (by omega) (by omega)) e4, ?_⟩⟩
  · rw [vne _ (by omega) (by omega)]; exact a4
  · rw [vne _ (by omega) (by omega)]; exact a5
  · rw [vne _ (by omega) (by omega)]; exact a6
  · rw [vne _ (by omega) (by omega)]; exact b1
  · rw [vne _ (by omega) (by omega)]; exact b2
  · rw [upd_eq, b3, ← hcnt, nI_sub (by omega)]; rfl
  · intro s hs; rw [vne _ (by omega) (by omega)]; exact b4 s hs
  · intro s hs; rw [vne _ (by omega) (by omega)]; exact b5 s hs
  · intro p' hp'
    by_cases hx : p' = p
    · subst hx
      refine Or.inl ?_
      dsimp only
      rw [Nat.add_zero, upd_ne (by omega), upd_eq]
    · exact cl1 hp' (Nat.le_refl _) (fun j hj => vne _ (by omega) (by omega)) (b8 p' hp')
  · rw [eN, if_neg (by omega), if_neg (by omega), vne _ (by omega) (by omega)]; exact d1
  · rw [eN, if_neg (by omega), if_neg (by omega), vne _ (by omega) (by omega)]; exact d2
  · rw [eN, if_neg (by omega), if_neg (by omega), vne _ (by omega) (by omega)]; exact d3
  · rw [eN, if_neg (by omega), if_neg (by omega), vne _ (by omega) (by omega)]; exact d4
  · rw [eN, if_neg (by omega), if_neg (by omega), vne _ (by omega) (by omega)]; exact d5
  · rw [eN, if_pos (by omega), upd_eq, d6]
  · rw [eN, if_neg (by omega), if_neg (by omega)]
  · intro s hs; rw [eN, if_neg (by omega), if_neg (by omega), vne _ (by omega) (by omega)]; exact e1' s hs
  · intro k hk; rw [eN, if_neg (by omega), if_neg (by omega), vne _ (by omega) (by omega)]; exact e2 k hk
  · rw [eN, if_neg (by omega), if_neg (by omega)]
  · rw [eN, if_neg (by omega), if_neg (by omega)]
  · intro p' hp'
    by_cases hx : p' = p
    · subst hx
      refine Or.inl ⟨?_, ?_⟩
      · rw [upd_ne (by omega), upd_eq]
      · rw [eN, if_neg (by omega), if_pos (by omega)]
    · refine cC1 ⟨?_, ?_, ?_, fun k hk => ?_⟩ (fun j hj => vne _ (by omega) (by omega)) (e5 p' hp')
      · rw [eN, if_neg (by omega), if_neg (by omega)]
      · rw [eN, if_neg (by omega), if_neg (by omega)]
      · rw [eN, if_neg (by omega), if_neg (by omega)]
      · rw [eN, if_neg (by omega), if_neg (by omega)]
theorem op_end {t : Nat} {w : Wd} (H : Inv t w) (ht : t + 1 ≤ 600) (x : Int32) : ∃ r w1 w2, f_X9_end w x = some (r, w1) ∧ f_X10_end w1 x = some (r, w2) ∧ Inv (t + 1) w2 := by
  obtain ⟨S, R, P, hV, hC⟩ := H.now
  have hm1 := H.mono (show t ≤ t + 1 by omega) ht
  rcases rl x 10 with ⟨p, hp, rfl⟩ | h
  · rcases place_cases hV hC hp with ⟨e1, e2⟩ | ⟨e1, n, st, len, y1, y2, y3, y4, y5, y6, y7, y8, y9, z1, z2, z3⟩
    · refine ⟨-1, w, w, ?_, ?_, hm1⟩
      · rw [f_X9_end, cHas_0 hp e2, Option.bind_some]
        dsimp only
        rw [if_pos (by decide)]
      · rw [f_X10_end, mHas_0 hp e1, Option.bind_some]
        dsimp only
        rw [if_pos (by decide)]
    · obtain ⟨rt, hrt⟩ : ∃ rt : Nat → Nat, ∀ k, k < len → rt k < R ∧ w 8 1 (420 + 14 * p + (5 + k)) = nI (rt k) ∧ w 0 17 (6 * p + k) = nI (rt k) := by
        refine ⟨fun k => if h : k < len then (y9 k h).choose else 0, fun k hk => ?_⟩
        dsimp only
        rw [dif_pos hk]
        exact (y9 k hk).choose_spec
      obtain ⟨T, hT, eT⟩ := hV.2.2.1
      obtain ⟨w1, p1, p2, p3, p4⟩ := act_push H
      have h8 : w1 0 0 8 = nI T := by rw [p3]; exact hC.1.2.2.2.2.1.trans eT
      generalize hm : p_J9_max_7cf53 w1 1 (w1 0 0 8 - nI st) = m
      have hR40 := hV.1.2.1
      obtain ⟨wL, l1, l2, l3, l4⟩ := cEnd (m := m) (rt := rt) hp ⟨y1, by omega⟩ y3 y4 (fun k hk => (hrt k hk).1) hR40 len 0 0 FU 0 w1 (w 8 1) (by omega) (by omega) (by rw [FU_eq]; omega) (Vu.of hV) (by rw [p3]; exact hC) (by rw [p3]; exact z1) (by rw [p3]; exact z3) (fun k hk => by rw [p3]; exact (hrt k hk).2.2)
      generalize hsv : (seL m (bandN st) rt len 0 0 (w 8 1)).2 = vL at l4
      generalize hss : (seL m (bandN st) rt len 0 0 (w 8 1)).1 = sL at l1
      have hVL : Vd (t + 1) vL S R P := by
        rw [← hsv]
        exact Vu.to (show 0 + len ≤ 6 by omega) (seL_Vu len 0 0 0 (w 8 1) (fun k hk => (hrt k (by omega)).1) (Vu.of hV))
      have hv1 : vL (420 + 14 * p) = nI 1 := by
        rw [← hsv, seL_cl (by omega) len 0 0 (w 8 1) (fun k hk => by have := (hrt k (by omega)).1; omega)]; exact e1
      have e14 : wL 0 14 p = nI n := by rw [l3 _ _ (by omega) (by omega), p3]; exact z1
      generalize hwc : wup (wup wL 0 14 p (nI 0)) 0 13 4 (wL 0 13 4 - nI 1) = wc
      have c8 : wc 8 = w 8 := by
        rw [← hwc]
        funext c
        rw [wup_row, if_neg (by omega), wup_row, if_neg (by omega), l2 _ _ (by omega), p4]
      obtain ⟨w2, k1, k2, k3, k4⟩ := act_keep (wc := wc) H c8
      have q1 : f_X9_end w (nI p) = some (sL, wc) := by
        rw [f_X9_end, cHas_T hp ⟨y1, by omega⟩ z1, Option.bind_some]
        dsimp only
        rw [if_neg (by decide), p1, Option.bind_some]
        dsimp only
        rw [f_X4_settle, cStart_T (s := st) hp ⟨y1, by omega⟩ (by rw [p3]; exact z1) (by rw [p3]; exact z2), Option.bind_some]
        dsimp only
        rw [leti, hm, show h_X4_settle_26 0 FU w1 (nI p) (nI st) m 0 0 = some (sL, wc) from l1.trans (by rw [remove_T hp ⟨y1, by omega⟩ e14, Option.bind_some, hwc]), Option.bind_some]
      have hmm : m = if 1 ≤ nI T - nI st then nI T - nI st else 1 := by
        rw [← hm, p_J9_max_7cf53, h8]
        generalize nI T - nI st = u
        by_cases h : 1 < u
        · rw [if_pos h, if_pos (Int32.le_of_lt h)]
        · rw [if_neg h]
          split
          · rename_i h2
            exact Int32.le_antisymm h2 (Int32.not_lt.mp h)
          · rfl
      refine ⟨sL, wc, wr w2 8 1 (upd (upd vL (420 + 14 * p) (nI 0)) 5 (vL 5 - nI 1)), q1, ?_, ?_⟩
      · have hme := mEnd (t := t) (S := S) (P := P) (b := bandN st) (m := m) (rt := rt) hp (bandN_lt st) y4 (fun k hk => (hrt k hk).1) hR40 len 0 0 FU 0 w2 (by omega) (by omega) (by rw [FU_eq]; omega) (by rw [k3]; exact Vu.of hV) (by rw [k3]; exact y7) (by rw [k3]; exact y8) (fun k hk => by rw [k3]; exact (hrt k hk).2.1)
        rw [k3, hsv, hss] at hme
        rw [f_X10_end, mHas_T hp (by rw [c8]; exact e1), Option.bind_some]
        dsimp only
        rw [if_neg (by decide), k1, Option.bind_some]
        dsimp only
        rw [show (420 + 14 * nI p : Int32) = nI (420 + 14 * p) from by rw [lit, lit, nI_mul, nI_add], leti, if_pos (show ib 4 640 = true from rfl), show (nI (420 + 14 * p) + 2 : Int32) = nI (420 + 14 * p + 2) from nI_add _ 2, if_pos (ibT (by omega) (by omega)), nI_clamp (by omega), leti, show Int32.toNatClampNeg 4 = 4 from rfl, k3, eT, y6]
        by_cases h : 1 ≤ nI T - nI st
        · rw [if_pos h]
          rw [if_pos h] at hmm
          rw [← hmm]
          exact hme
        · rw [if_neg h]
          rw [if_neg h] at hmm
          rw [← hmm]
          exact hme
      · refine act_inv H p2 (fun g c hg => ?_) k2 (fun g c hg => by rw [wr_at, if_neg hg]) (by omega) ht ?_
        · rw [← hwc, wup_row, if_neg (by omega), wup_row, if_neg (by omega), l2 _ _ hg]
        · rw [wr_at, if_pos ⟨rfl, rfl⟩]
          refine end_NR hp hVL l4 hv1 (fun c i => ?_)
          rw [wr_at, if_neg (by omega), k4 0 (by omega), ← hwc, wup_at, wup_at]
          simp
  · refine ⟨-1, w, w, ?_, ?_, hm1⟩
    · rw [f_X9_end, cHas_F h, Option.bind_some]
      dsimp only
      rw [if_pos (by decide)]
    · rw [f_X10_end, mHas_F h, Option.bind_some]
      dsimp only
      rw [if_pos (by decide)]
