theorem try_ok {t S R P T n L Lim bz x d a M A i K : Nat} {v0 : Nat → Int32} {N0 : Nat → Nat → Int32} {mk : Option Nat} {ls : Nat → Nat} {wc wm : Wd} (ht : t ≤ 600) (J : Jc t S R P T n L Lim bz v0 N0) (hx : d + 1 + x = 6) (IH : LoopOK t S R P T n L Lim bz v0 N0 x (d + 1)) (hdL : d < Lim) (ha : a < S) (hmk : okM S mk) (hi : i < K) (hS : Srt (mb (dn n L mk) a R (owv v0) (prv v0)) (cov v0 (bandN T)) ls K R) (hc : Wc T n bz N0 wc) (hm : Wm t S R P M v0 wm) (hk : Mk d M wm) (hv : M.testBit a = false) (ed : wm 8 0 12 = nI d) (hF : Fr wm d a mk K ls i) (hT : Tc d A wc wm) (hA : A < 30) :
    ∃ c wc' A' k, c ≤ 6 ∧ k ≤ 40 * Ex x + 2 ∧ f_X3_tryRoute (f_X3_arrive (3 + (x + 1))) 0 wc (nI (ls i)) (nI M) (cM mk) = some (nI c, wc') ∧ Sk d wc wc' ∧ A < A' ∧ A' ≤ 30 ∧
    ((c ≠ 0 ∧ wc' 7 14 A = nI c ∧ ∃ wm2, (∀ fu, h_X10_places_36 (k + fu + 1) wm (nI n) (-1) = (f_X10_settles wm2 (nI c)).bind fun q => h_X10_places_36 fu q.2 (nI n) q.1) ∧ Sm d wm wm2 ∧ wm2 8 0 12 = nI d ∧ Fr wm2 d a mk K ls i ∧ wm2 8 1 = wm 8 1 ∧ wm2 8 10 d = nI A ∧ Tc (d + 1) A' wc' wm2) ∨
     (c = 0 ∧ ∃ wm3 D, (∀ fu, h_X10_places_36 (k + fu + 1) wm (nI n) (-1) = h_X10_places_36 (fu + 1) wm3 (nI n) (nI 0)) ∧ Sm d wm wm3 ∧ Con t S R P d A' D (wm 8 1) wc' wm3)) := by
  obtain ⟨hV, hC, ⟨eT, hT0⟩, ⟨eL, hL1, hL6⟩, ⟨hn1, hn9, hnL, hL9⟩, hbz, hb1, hb2⟩ := id J
  have hSS := hV.1.1
  have hR := hV.1.2.1
  have hCc : Cp (wc 0) v0 S R P := by rw [hc.1]; exact hC
  have hK : K ≤ 40 := by have := hS.1; omega
  obtain ⟨hrR, hmbr⟩ := hS.2.1 i hi
  obtain ⟨hor, hpfr, -⟩ := mb_T.mp hmbr
  generalize hr : ls i = r at hrR hmbr hor hpfr
  have hr40 : r < 40 := by omega
  obtain ⟨q1, q2, q3, q4, q5, q6, q7, q8⟩ := rtv (b := 0) hV (by omega) hrR
  rw [hor] at q5
  have m0 : wm 8 1 (30 + 8 * r) = nI a := by have := hm.rt (r := r) (k := 0) (by omega); rw [Nat.add_zero] at this; rw [this]; exact q5
  have m2 : wm 8 1 (30 + 8 * r + 2) = nI (nxv v0 r) := (hm.rt (by omega)).trans q7
  have m6 : wm 8 1 (30 + 8 * r + 6) = v0 (30 + 8 * r + 6) := hm.rt (by omega)
  have m7 : wm 8 1 (30 + 8 * r + 7) = v0 (30 + 8 * r + 7) := hm.2.2 r hrR (by rw [hor]; exact hv)
  have eA : wm 8 0 15 = nI A := hT.2.2.1
  have eAc : wc 7 12 2 = nI A := hT.2.1
  have hlow : ∀ j, 420 ≤ j → j < 560 → wm 8 1 j = v0 j := fun j h1 h2 => hm.low (by omega)
  obtain ⟨cw, hcw1, hcw2, ecw⟩ := hV.2.2.2.2.2.1 a ha
  have hcls := tryR_head (wc := wc) (r := r) (ra := f_X3_arrive (3 + (x + 1))) (y := cM mk) hk.1 hk.2.1 (show d < 6 by omega) eAc hA
  have hTb := tc_begin (r := r) hA hT
  have hW3 : Wc T n bz N0 (wc3 wc A r d) := hc.keep wc3_Sk
  have hC3 : Cp (wc3 wc A r d 0) v0 S R P := by rw [hW3.1]; exact hC
  have s15 : wc3 wc A r d 7 15 d = nI r := by unfold wc3; rw [wup_at, if_pos ⟨rfl, rfl, rfl⟩]
  rw [cServes hV hC3 hrR, Option.bind_some] at hcls
  dsimp only at hcls
  -- an attempt that fails at once
  have fs : ∀ (c : Nat) (wm2 : Wd), 1 ≤ c → c ≤ 6 → f_X10_tries wm (nI n) = some (nI c, wm2) → ∀ fu, h_X10_places_36 (0 + fu + 1) wm (nI n) (-1) = (f_X10_settles wm2 (nI c)).bind fun q => h_X10_places_36 fu q.2 (nI n) q.1 := by
    intro c wm2 h1 h2 h3 fu
    rw [Nat.zero_add, places_try fu (by omega) ed hA eA, h3, Option.bind_some]
    dsimp only
    rw [if_neg (nI_ne_m1 (by omega))]
  -- an attempt that connects at once
  have ss : ∀ (wX cX : Wd), f_X10_tries wm (nI n) = some (nI 0, wX) → wX 8 0 12 = nI d → Fr wX d a mk K ls i → wX 8 10 d = nI A → wX 8 1 = ocV r (wm 8 1) → Vd t (wX 8 1) S R P → Sm d wm wX → Tc (d + 1) (A + 1) cX wX → cX 7 14 A = nI 0 → cX 7 11 2 = nI (d + 1) → cX 7 15 d = nI r → (∀ fu, h_X10_places_36 (1 + fu + 1) wm (nI n) (-1) = h_X10_places_36 (fu + 1) (wup wX 8 12 A (nI 0)) (nI n) (nI 0)) ∧ Sm d wm (wup wX 8 12 A (nI 0)) ∧ Con t S R P d (A + 1) d (wm 8 1) cX (wup wX 8 12 A (nI 0)) := by
    intro wX cX h1 h2 h3 h4 h5 h6 h7 h8 h9 h10 h11
    have ecX : wX 8 1 (18 + a) = nI cw := by
      rw [h5, ocV]
      split
      · rw [hm.low (by omega)]; exact ecw
      · rw [upd_ne (by omega), hm.low (by omega)]; exact ecw
    have hse := settles_spec (c := 0) h3 h2 (by omega) h4 hA (by omega) ecX ⟨hcw1, hcw2⟩ (by omega) hi hK
    rw [if_neg (by rw [(bit_0 cw hcw1 hcw2).1]; exact fun h => Bool.noConfusion h.1)] at hse
    refine ⟨fun fu => ?_, h7.trans code_Sm, by omega, by omega, ?_, h10, ⟨fun _ => r, fun _ => i, fun j j1 j2 => ?_, ?_⟩, ?_, ?_⟩
    · rw [show 1 + fu + 1 = (fu + 1) + 1 from by omega, places_try (fu + 1) (by omega) ed hA eA, h1, Option.bind_some]
      dsimp only
      rw [if_neg (nI_ne_m1 (by omega)), hse, Option.bind_some]
    · rw [wup_at, if_neg (by omega)]; exact h2
    · have : j = d := by omega
      subst this
      refine ⟨hrR, show i < 40 by omega, ?_, ?_, h11, A, by omega, ?_, h9⟩
      · rw [wup_at, if_neg (by omega)]; exact h3.2.2.2.1
      · rw [wup_at, if_neg (by omega)]; rw [h3.2.2.2.2 i hi, hr]
      · rw [wup_at, if_neg (by omega)]; exact h4
    · rw [wup_row, if_neg (by omega), h5, show d + 1 - d = 1 from by omega]; rfl
    · rw [wup_row, if_neg (by omega)]; exact h6
    · obtain ⟨z1, z2, z3, z4⟩ := h8.close h4 hA h9
      refine ⟨z1, z2, z3, fun i' hi' => ⟨(z4 i' hi').1, ?_⟩⟩
      rcases (z4 i' hi').2 with z | ⟨j, j1, j2⟩
      · exact Or.inl z
      · exact Or.inr ⟨j, by omega, j2⟩
  by_cases hsv : owv v0 r = nxv v0 r
  · -- the route serves
    rw [if_pos hsv, if_neg (by decide), letw, leti, show (nI d + 1 : Int32) = nI (d + 1) from nI_add d 1, wup_at, if_neg (by omega), hW3.2.2.2, fin112 (A := A) (A' := A + 1) (by omega) (by omega) (by rw [wup_at, if_neg (by omega)]; exact wc3_12)] at hcls
    have htr := tries_serve (n := n) (bz := bz) (v0 := v0) hF ed (by omega) hi hK hr eA hA hr40 (show a < 8 by omega) m0 (by rw [m2, ← hsv, hor]) hbz hlow hb2
    have hTc : Tc (d + 1) (A + 1) (wup (wup (wc3 wc A r d) 7 11 2 (nI (d + 1))) 7 14 A (nI bz)) (wm4 wm A r d) := by
      refine Tc.fin (j := d) ?_ (by omega) wm4_own
      exact hTb.keepc (by rw [wup_at, if_neg (by omega)]) (by rw [wup_row, if_neg (by omega)]) (by rw [wup_row, if_neg (by omega)])
    refine ⟨bz, _, A + 1, if bz = 0 then 1 else 0, by omega, by split <;> omega, hcls, (wc3_Sk.trans len_Sk).trans fin_Sk, by omega, by omega, ?_⟩
    rcases hbz with rfl | rfl
    · refine Or.inr ⟨rfl, wup (wm4 wm A r d) 8 12 A (nI 0), d, ?_⟩
      rw [if_pos rfl]
      refine ss (wm4 wm A r d) _ htr (by rw [wm4_12]; exact ed) (wm4_Fr hF) wm4_own ?_ (by rw [wm4_row]; exact hm.1) wm4_Sm hTc ?_ ?_ ?_
      · rw [wm4_row, ocV, if_pos (by rw [m0, m2, ← hsv, hor])]
      · rw [wup_at, if_pos ⟨rfl, rfl, rfl⟩]
      · rw [wup_at, if_neg (by omega), wup_at, if_pos ⟨rfl, rfl, rfl⟩]
      · rw [wup_at, if_neg (by omega), wup_at, if_neg (by omega)]; exact s15
    · refine Or.inl ⟨by omega, by rw [wup_at, if_pos ⟨rfl, rfl, rfl⟩], wm4 wm A r d, ?_, wm4_Sm, by rw [wm4_12]; exact ed, wm4_Fr hF, wm4_row, wm4_own, hTc⟩
      rw [if_neg (by omega)]
      exact fs 5 _ (by omega) (by omega) htr
  have hox : a ≠ nxv v0 r := by rw [← hor]; exact hsv
  rw [if_neg hsv, if_pos (by decide), free_c ht hV hC3 hrR, Option.bind_some] at hcls
  dsimp only at hcls
  by_cases hf : v0 (30 + 8 * r + 7) = v0 (30 + 8 * r + 6)
  · -- no line is free
    rw [if_pos hf, if_pos (by decide), fin112 (A := A) (A' := A + 1) (by omega) (by omega) wc3_12] at hcls
    have htr := tries_full (n := n) hF ed (by omega) hi hK hr eA hA hr40 (show a < 8 by omega) (show nxv v0 r < 8 by omega) hox m0 m2 (by rw [m7, m6]; exact hf)
    refine ⟨2, _, A + 1, 0, by omega, by omega, hcls, wc3_Sk.trans fin_Sk, by omega, by omega, Or.inl ⟨by omega, by rw [wup_at, if_pos ⟨rfl, rfl, rfl⟩] <;> rfl, wm4 wm A r d, fs 2 _ (by omega) (by omega) htr, wm4_Sm, by rw [wm4_12]; exact ed, wm4_Fr hF, wm4_row, wm4_own, Tc.fin (j := d) hTb (by omega) wm4_own⟩⟩
  -- on to the next switch
  have hnx : f_X6_nextOf 0 (wc3 wc A r d) (nI r) = some (nI (nxv v0 r), wc3 wc A r d) := by
    rw [f_X6_nextOf, hasRt_T hR (hC3.1.2.1.trans hV.1.2.2.2.2.1) hrR, if_neg (by decide), if_pos (ibT (by omega) (by omega)), nI_clamp (by omega), (hC3.2.2.2.2.1 r hrR).2.2.1, q7]
  have hso : f_X6_switchOf 0 (wc3 wc A r d) (nI r) = some (nI a, wc3 wc A r d) := by
    rw [f_X6_switchOf, hasRt_T hR (hC3.1.2.1.trans hV.1.2.2.2.2.1) hrR, if_neg (by decide), if_pos (ibT (by omega) (by omega)), nI_clamp (by omega), (hC3.2.2.2.2.1 r hrR).1, q5]
  rw [if_neg hf, if_neg (by decide), hnx, Option.bind_some] at hcls
  dsimp only at hcls
  rw [hso, Option.bind_some] at hcls
  dsimp only at hcls
  rw [or_nI M hk.1 a (by omega)] at hcls
  have hf' : ¬ wm 8 1 (30 + 8 * r + 7) = wm 8 1 (30 + 8 * r + 6) := by rw [m7, m6]; exact hf
  have htr := tries_go (n := n) hF ed (by omega) hi hK hr eA hA hr40 (show a < 8 by omega) (show nxv v0 r < 8 by omega) hox m0 m2 hf'
  generalize hM' : M ||| 2 ^ a = M' at hcls
  have hM256 : M' < 256 := by rw [← hM']; exact or_lt M hk.1 a (by omega)
  have htb : ∀ j, j < 8 → M'.testBit j = (M.testBit j || decide (j = a)) := fun j hj => by rw [← hM']; exact tb_or M hk.1 a (by omega) j hj
  have hV8 : Vd t (w8 wm A r d 8 1) S R P := by rw [w8_row]; exact occ_Vd ht hm.1 hrR hf'
  have hm8 : Wm t S R P M' v0 (w8 wm A r d) := by
    refine ⟨hV8, fun j hj => ?_, fun r' hr' hb => ?_⟩
    · rw [w8_row, upd_ne (hj r hr40)]; exact hm.2.1 j hj
    · have ho8 : owv v0 r' < 8 := by have := (rtv (b := 0) hV (by omega) hr').1; omega
      rw [htb _ ho8] at hb
      have hne : r' ≠ r := by
        intro h
        rw [h, hor] at hb
        simp at hb
      rw [w8_row, upd_ne (by omega)]
      refine hm.2.2 r' hr' ?_
      cases hq : M.testBit (owv v0 r') with
      | false => rfl
      | true => rw [hq] at hb; simp at hb
  have hk8 : Mk (d + 1) M' (w8 wm A r d) := by
    refine ⟨hM256, by rw [← hM', pop_or M hk.1 a (by omega) hv, hk.2.1], fun a' ha' => ?_⟩
    rw [htb a' ha', w8_ne (by omega), wm4_c (by omega), Bool.or_eq_true, decide_eq_true_iff]
    constructor
    · rintro (h | h)
      · obtain ⟨e, e1, e2⟩ := (hk.2.2 a' ha').mp h
        exact ⟨e, by omega, e2⟩
      · exact ⟨d, by omega, by rw [h]; exact hF.1⟩
    · rintro ⟨e, e1, e2⟩
      by_cases hed : e = d
      · rw [hed, hF.1, nI_eq (by omega) (by omega)] at e2
        exact Or.inr e2.symm
      · exact Or.inl ((hk.2.2 a' ha').mpr ⟨e, by omega, e2⟩)
  have e12 : w8 wm A r d 8 0 12 = nI (d + 1) - nI 1 := by rw [w8_ne (by omega), wm4_12, ed, nI_sub (by omega), Nat.add_sub_cancel]
  have e12' : w8 wm A r d 8 0 12 = nI d := by rw [w8_ne (by omega), wm4_12, ed]
  have hF8 : Fr (w8 wm A r d) d a mk K ls i := by
    have := wm4_Fr (A := A) (r := r) hF
    unfold Fr at this ⊢
    rw [w8_ne (by omega), w8_ne (by omega), w8_ne (by omega), w8_ne (by omega), w8_ne (by omega)]
    exact this
  have ho8 : w8 wm A r d 8 10 d = nI A := by rw [w8_ne (by omega)]; exact wm4_own
  have hT8 : Tc (d + 1) (A + 1) (wc3 wc A r d) (w8 wm A r d) := hTb.keepm (by rw [w8_ne (by omega)]) (w8_ne (by omega)) (w8_ne (by omega)) (fun j _ => by rw [w8_ne (by omega)])
  have hlow8 : ∀ j, 420 ≤ j → j < 560 → w8 wm A r d 8 1 j = v0 j := fun j h1 h2 => hm8.low (by omega)
  -- back from a world whose row is w8's
  have back : ∀ (c : Nat) (wX : Wd), 1 ≤ c → c ≤ 6 → (f_X10_tries wm (nI n) = j_X10_tries_144 wX (nI r) (nI c)) → Sm (d + 1) (w8 wm A r d) wX → wX 8 0 12 = nI d → wX 8 1 = w8 wm A r d 8 1 → wX 8 0 15 = nI (A + 1) → wX 8 11 = w8 wm A r d 8 11 → wX 8 12 = w8 wm A r d 8 12 → ∀ cX, Tc (d + 1) (A + 1) cX (w8 wm A r d) → ∃ wm2, (∀ fu, h_X10_places_36 (0 + fu + 1) wm (nI n) (-1) = (f_X10_settles wm2 (nI c)).bind fun q => h_X10_places_36 fu q.2 (nI n) q.1) ∧ Sm d wm wm2 ∧ wm2 8 0 12 = nI d ∧ Fr wm2 d a mk K ls i ∧ wm2 8 1 = wm 8 1 ∧ wm2 8 10 d = nI A ∧ Tc (d + 1) (A + 1) cX wm2 := by
    intro c wX h1 h2 h3 h4 h5 h6 h7 h8 h9 cX hcX
    rw [j144_pos hr40 h1 h2] at h3
    refine ⟨_, fs c _ h1 h2 h3, (w8_Sm.trans (h4.mono (by omega))).trans row_Sm, ?_, ?_, ?_, ?_, ?_⟩
    · rw [wup_at, if_neg (by omega)]; exact h5
    · exact (hF8.keep h4 hK).keep row_Sm hK
    · rw [wup_row, if_pos ⟨rfl, rfl⟩, h6, w8_row, upd_eq, row_back]
    · rw [wup_at, if_neg (by omega), h4.2.2.2.1 d (by omega) 10 (by omega)]; exact ho8
    · refine hcX.keepm ?_ ?_ ?_ (fun j hj => ?_)
      · rw [wup_at, if_neg (by omega), h7, hT8.2.2.1]
      · rw [wup_row, if_neg (by omega)]; exact h8
      · rw [wup_row, if_neg (by omega)]; exact h9
      · rw [wup_at, if_neg (by omega)]; exact h4.2.2.2.1 j hj 10 (by omega)
  have hax : nxv v0 r < S := q3
  rcases arr_both (x := 3 + x) J hW3 hm8 hk8 (show d + 1 ≤ Lim by omega) e12 hax hmk with ⟨c, hc34, g1, g2⟩ | ⟨g1, g2⟩ | ⟨wX, g1, g2, g3, g4⟩ | ⟨mk', K', ls', wX, g0, gb, gK, gm, gS, g1, g2, g3, g4, g5⟩
  · -- marked or too long
    rw [show f_X3_arrive (3 + (x + 1)) 0 (wc3 wc A r d) (nI (nxv v0 r)) (nI M') (cM mk) = _ from g1, Option.bind_some] at hcls
    dsimp only at hcls
    rw [fin112 (A := A) (A' := A + 1) (by omega) (by omega) wc3_12] at hcls
    rw [g2, Option.bind_some] at htr
    dsimp only at htr
    rw [if_neg (nI_ne_0 (by omega) (by omega))] at htr
    refine ⟨c, _, A + 1, 0, by omega, by omega, hcls, wc3_Sk.trans fin_Sk, by omega, by omega, Or.inl ⟨by omega, by rw [wup_at, if_pos ⟨rfl, rfl, rfl⟩], ?_⟩⟩
    exact back c _ (by omega) (by omega) htr (Sm.refl _ _) e12' rfl (by rw [hT8.2.2.1]) rfl rfl _ (Tc.fin (j := d) hT8 (by omega) ho8)
  · -- arrived
    rw [show f_X3_arrive (3 + (x + 1)) 0 (wc3 wc A r d) (nI (nxv v0 r)) (nI M') (cM mk) = _ from g1, Option.bind_some] at hcls
    dsimp only at hcls
    rw [fin112 (A := A) (A' := A + 1) (by omega) (by omega) (by rw [wup_at, if_neg (by omega)]; exact wc3_12)] at hcls
    rw [g2, Option.bind_some] at htr
    dsimp only at htr
    rw [if_pos (show nI 0 = 0 from rfl), hb2 _ hlow8, Option.bind_some] at htr
    dsimp only at htr
    have hTc : Tc (d + 1) (A + 1) (wup (wup (wc3 wc A r d) 7 11 2 (nI (d + 1))) 7 14 A (nI bz)) (w8 wm A r d) := by
      refine Tc.fin (j := d) ?_ (by omega) ho8
      exact hT8.keepc (by rw [wup_at, if_neg (by omega)]) (by rw [wup_row, if_neg (by omega)]) (by rw [wup_row, if_neg (by omega)])
    refine ⟨bz, _, A + 1, if bz = 0 then 1 else 0, by omega, by split <;> omega, hcls, (wc3_Sk.trans len_Sk).trans fin_Sk, by omega, by omega, ?_⟩
    rcases hbz with rfl | rfl
    · rw [if_pos (by decide), j_X10_tries_144, if_pos (by decide)] at htr
      refine Or.inr ⟨rfl, wup (w8 wm A r d) 8 12 A (nI 0), d, ?_⟩
      rw [if_pos rfl]
      refine ss (w8 wm A r d) _ htr e12' hF8 ho8 ?_ hV8 w8_Sm hTc ?_ ?_ ?_
      · rw [w8_row, ocV, if_neg (by rw [m0, m2, nI_eq (by omega) (by omega)]; exact hox)]
      · rw [wup_at, if_pos ⟨rfl, rfl, rfl⟩]
      · rw [wup_at, if_neg (by omega), wup_at, if_pos ⟨rfl, rfl, rfl⟩]
      · rw [wup_at, if_neg (by omega), wup_at, if_neg (by omega)]; exact s15
    · rw [if_neg (by decide)] at htr
      refine Or.inl ⟨by omega, by rw [wup_at, if_pos ⟨rfl, rfl, rfl⟩], ?_⟩
      rw [if_neg (by omega)]
      exact back 5 _ (by omega) (by omega) htr (Sm.refl _ _) e12' rfl (by rw [hT8.2.2.1]) rfl rfl _ hTc
  · -- no route there
    rw [show f_X3_arrive (3 + (x + 1)) 0 (wc3 wc A r d) (nI (nxv v0 r)) (nI M') (cM mk) = _ from g1, Option.bind_some] at hcls
    dsimp only at hcls
    rw [fin112 (A := A) (A' := A + 1) (by omega) (by omega) wc3_12] at hcls
    rw [g2, Option.bind_some] at htr
    dsimp only at htr
    rw [if_neg (nI_ne_0 (by omega) (by omega))] at htr
    refine ⟨1, _, A + 1, 0, by omega, by omega, hcls, wc3_Sk.trans fin_Sk, by omega, by omega, Or.inl ⟨by omega, by rw [wup_at, if_pos ⟨rfl, rfl, rfl⟩], ?_⟩⟩
    exact back 1 wX (by omega) (by omega) htr (Sm.of g3) (g4.trans e12') (g3.2.1 1 (by omega)) (by rw [g3.2.2.1 15 (by omega) (by omega), hT8.2.2.1]) (g3.2.1 11 (by omega)) (g3.2.1 12 (by omega)) _ (Tc.fin (j := d) hT8 (by omega) ho8)
  · -- a place further
    rw [g2, Option.bind_some] at htr
    dsimp only at htr
    rw [if_neg (by decide), j_X10_tries_144, if_pos (by decide)] at htr
    have hTX : Tc (d + 1) (A + 1) (wc3 wc A r d) wX := hT8.keepm (g3.2.2.1 15 (by omega) (by omega)) (g3.2.1 11 (by omega)) (g3.2.1 12 (by omega)) (fun j _ => by rw [g3.2.1 10 (by omega)])
    have e1X : wX 8 1 = w8 wm A r d 8 1 := g3.2.1 1 (by omega)
    obtain ⟨c, wc', wm', A', k, i1, i2, i3, i4, i5, i6, i7, i8⟩ := IH (nxv v0 r) M' (A + 1) 0 K' mk' ls' (nI 1) (wc3 wc A r d) wX FU g0 hax gm gK gS hW3 (hm8.keep e1X) (hk8.keep (fun e he => g3.2.2.2.1 e he 5 (by omega))) gb g4 g5 hTX (by rw [FU_eq]; have := gS.1; omega)
    have hK' := gS.1
    have hEx : (K' - 0) * Ex x ≤ 40 * Ex x := Nat.mul_le_mul_right _ (by omega)
    rw [show f_X3_arrive (3 + (x + 1)) 0 (wc3 wc A r d) (nI (nxv v0 r)) (nI M') (cM mk) = _ from g1, i3, Option.bind_some, Option.bind_some] at hcls
    dsimp only at hcls
    have hA' : A' ≤ 30 ∧ wc' 7 12 2 = nI A' := by
      rcases i8 with ⟨-, -, -, h⟩ | ⟨-, D, h⟩
      · exact ⟨h.1, h.2.1⟩
      · exact ⟨h.2.2.2.2.2.2.1, h.2.2.2.2.2.2.2.1⟩
    rw [fin112 (A := A) (A' := A') (by omega) hA'.1 hA'.2] at hcls
    have hgo : ∀ fu, h_X10_places_36 (k + 1 + fu + 1) wm (nI n) (-1) = h_X10_places_36 (fu + 1) wm' (nI n) (nI c) := by
      intro fu
      rw [show k + 1 + fu + 1 = (k + fu + 1) + 1 from by omega, places_try (k + fu + 1) (by omega) ed hA eA, htr, Option.bind_some]
      dsimp only
      rw [if_pos rfl, i4 fu]
    have hSm' : Sm (d + 1) (w8 wm A r d) wm' := (Sm.of g3).trans i6
    have hF' : Fr wm' d a mk K ls i := hF8.keep hSm' hK
    have ho' : wm' 8 10 d = nI A := by rw [hSm'.2.2.2.1 d (by omega) 10 (by omega)]; exact ho8
    refine ⟨c, _, A', k + 1, i1, by omega, hcls, (wc3_Sk.trans (i5.mono (by omega))).trans fin_Sk, by omega, hA'.1, ?_⟩
    rcases i8 with ⟨c0, z1, z2, z3⟩ | ⟨c0, D, z1, z2, z3, z4, ⟨pth, tj, z5, z6⟩, z7, z8⟩
    · refine Or.inl ⟨c0, by rw [wup_at, if_pos ⟨rfl, rfl, rfl⟩], wup (wup wm' 8 0 12 (nI d)) 8 1 (30 + 8 * r + 7) (wm' 8 1 (30 + 8 * r + 7) - nI 1), fun fu => ?_, ?_, ?_, ?_, ?_, ?_, ?_⟩
      · rw [hgo fu, places_back fu i1 c0 (by omega) (by omega) hr40 z1 hF'.2.2.2.1 (by rw [hF'.2.2.2.2 i hi, hr])]
      · exact ((w8_Sm.trans (hSm'.mono (by omega))).trans dep_Sm).trans row_Sm
      · rw [wup_at, if_neg (by omega), wup_at, if_pos ⟨rfl, rfl, rfl⟩]
      · exact (hF'.keep dep_Sm hK).keep row_Sm hK
      · rw [wup_row, if_pos ⟨rfl, rfl⟩, wup_row, if_neg (by omega), z2, e1X, w8_row, upd_eq, row_back]
      · rw [wup_at, if_neg (by omega), wup_at, if_neg (by omega)]; exact ho'
      · refine Tc.fin (j := d) ?_ (by omega) (by rw [wup_at, if_neg (by omega), wup_at, if_neg (by omega)]; exact ho')
        refine z3.keepm ?_ ?_ ?_ (fun j hj => ?_)
        · rw [wup_at, if_neg (by omega), wup_at, if_neg (by omega)]
        · rw [wup_row, if_neg (by omega), wup_row, if_neg (by omega)]
        · rw [wup_row, if_neg (by omega), wup_row, if_neg (by omega)]
        · rw [wup_at, if_neg (by omega), wup_at, if_neg (by omega)]
    · subst c0
      refine Or.inr ⟨rfl, wm', D, hgo, w8_Sm.trans (hSm'.mono (by omega)), by omega, z2, z3, ?_, ⟨fun j => if j = d then r else pth j, fun j => if j = d then i else tj j, fun j j1 j2 => ?_, ?_⟩, z7, Tc.fin (j := d) z8 (by omega) ho'⟩
      · rw [wup_at, if_neg (by omega)]; exact z4
      · by_cases hj : j = d
        · subst hj
          dsimp only
          rw [if_pos rfl, if_pos rfl]
          refine ⟨hrR, by omega, hF'.2.2.2.1, by rw [hF'.2.2.2.2 i hi, hr], ?_, A, by omega, ho', by rw [wup_at, if_pos ⟨rfl, rfl, rfl⟩]⟩
          rw [wup_at, if_neg (by omega), i5.2.2.2 j (by omega)]; exact s15
        · dsimp only
          rw [if_neg hj, if_neg hj]
          obtain ⟨y1, y2, y3, y4, y5, o, y6, y7, y8⟩ := z5 j (by omega) j2
          refine ⟨y1, y2, y3, y4, by rw [wup_at, if_neg (by omega)]; exact y5, o, y6, y7, ?_⟩
          rw [wup_at]
          split
          · rfl
          · exact y8
      · rw [z6, e1X, w8_row, show D + 1 - d = (D + 1 - (d + 1)) + 1 from by omega, oc, if_pos rfl, ocV, if_neg (by rw [m0, m2, nI_eq (by omega) (by omega)]; exact hox)]
        exact (oc_congr _ _ _ (fun j j1 j2 => if_neg (by omega))).symm
