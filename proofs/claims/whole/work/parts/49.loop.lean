theorem loop_ok {t S R P T n L Lim bz : Nat} {v0 : Nat → Int32} {N0 : Nat → Nat → Int32} (ht : t ≤ 600) (J : Jc t S R P T n L Lim bz v0 N0) : ∀ (x d : Nat), d + x = 6 → LoopOK t S R P T n L Lim bz v0 N0 x d := by
  obtain ⟨hV, hC, ⟨eT, hT0⟩, ⟨eL, hL1, hL6⟩, ⟨hn1, hn9, hnL, hL9⟩, hbz, hb1, hb2⟩ := id J
  have hSS := hV.1.1
  have hR := hV.1.2.1
  intro x
  induction x with
  | zero =>
    intro d hd a M A i K mk ls y8 wc wm fu0 h1
    omega
  | succ x ih =>
    intro d hd a M A i K mk ls y8 wc wm fu0 h1 h2 h3 h4 h5 h6 h7 h8 h9 h10 h11 h12 h13
    have IH := ih (d + 1) (by omega)
    obtain ⟨cw, hcw1, hcw2, ecw⟩ := hV.2.2.2.2.2.1 a h2
    have hK : K ≤ 40 := by have := h5.1; omega
    -- over the routes left
    have key : ∀ (m i A : Nat) (y8 : Int32) (wc wm : Wd) (fu0 : Nat), K - i = m → i < K → Wc T n bz N0 wc → Wm t S R P M v0 wm → Mk d M wm → wm 8 0 12 = nI d → Fr wm d a mk K ls i → Tc d A wc wm → m < fu0 →
        ∃ c wc' wm' A' k, c ≤ 6 ∧ k ≤ (K - i) * Ex (x + 1) ∧ h_X3_tryRoutes_45 0 (f_X3_arrive (3 + (x + 1))) fu0 wc (nI a) (nI M) (cM mk) (cP (mx (ft (dn n L mk) a (owv v0) (prv v0)) (prv v0) R)) (nI (ls i)) y8 (nI i) = some (nI c, wc') ∧ (∀ fu, h_X10_places_36 (k + fu + 1) wm (nI n) (-1) = h_X10_places_36 (fu + 1) wm' (nI n) (nI c)) ∧ Sk d wc wc' ∧ Sm d wm wm' ∧ A ≤ A' ∧ ((c ≠ 0 ∧ wm' 8 0 12 = nI d ∧ wm' 8 1 = wm 8 1 ∧ Tc d A' wc' wm') ∨ (c = 0 ∧ ∃ D, Con t S R P d A' D (wm 8 1) wc' wm')) := by
      intro m
      induction m with
      | zero => intro i A y8 wc wm fu0 g1 g2; omega
      | succ m ihm =>
        intro i A y8 wc wm fu0 g1 g2 g3 g4 g5 g6 g7 g8 g9
        obtain ⟨fu0, rfl⟩ : ∃ z, fu0 = z + 1 := ⟨fu0 - 1, by omega⟩
        have hCc : Cp (wc 0) v0 S R P := by rw [g3.1]; exact hC
        have hlsR := (h5.2.1 i g2).1
        have hEx1 : Ex (x + 1) = 40 * Ex x + 4 := rfl
        have hmul : (K - i) * Ex (x + 1) = m * Ex (x + 1) + Ex (x + 1) := by rw [g1, Nat.add_mul, Nat.one_mul]
        rw [h_X3_tryRoutes_45, b_X3_tryRoutes_45, if_neg (by rw [lit, nI_leI (by omega) (by omega)]; omega), if_neg (nI_ne_m9 (by omega))]
        by_cases hA30 : A = 30
        · subst hA30
          have hge := goesOn_spec (w := wc) (k := 6) hV hCc h2 (by omega) hcw1 ecw
          rw [if_neg (by rw [(bit_0 cw hcw1 hcw2).2]; exact Bool.noConfusion)] at hge
          have htr : f_X3_tryRoute (f_X3_arrive (3 + (x + 1))) 0 wc (nI (ls i)) (nI M) (cM mk) = some (nI 6, wc) := by
            rw [f_X3_tryRoute, leti, bc_spec wc M g5.1, g5.2.1, if_pos (by rw [lit, nI_ltI (by omega) (by omega)]; omega), f_X8_begin, g8.2.1, if_neg (by decide), Option.bind_some]
            dsimp only
            rw [if_pos rfl]; rfl
          refine ⟨6, wc, wm, 30, 0, by omega, by omega, ?_, fun fu => ?_, Sk.refl _ _, Sm.refl _ _, by omega, Or.inl ⟨by omega, g6, rfl, g8⟩⟩
          · rw [htr, Option.bind_some]
            dsimp only
            rw [hge, Option.bind_some]
            dsimp only
            rw [if_pos (show nI 0 = 0 from rfl)]
          · rw [Nat.zero_add, places_full fu (by omega) g6 g8.2.2.1]
        · have hA : A < 30 := by have := g8.1; omega
          obtain ⟨c, wc', A', k, y1, y2, y3, y4, y5, y6, y7⟩ := try_ok ht J (by omega) IH h1 h2 h3 g2 h5 g3 g4 g5 h9 g6 g7 g8 hA
          have hW' : Wc T n bz N0 wc' := g3.keep y4
          have hC' : Cp (wc' 0) v0 S R P := by rw [hW'.1]; exact hC
          have hge := goesOn_spec (w := wc') (k := c) hV hC' h2 (by omega) hcw1 ecw
          rw [y3, Option.bind_some]
          dsimp only
          rw [hge, Option.bind_some]
          dsimp only
          rcases y7 with ⟨c0, e14, wm2, z1, z2, z3, z4, z5, z6, z7⟩ | ⟨c0, wm3, D, z1, z2, z3⟩
          · have hse := settles_spec (c := c) z4 z3 (by omega) z6 hA (by omega) (show wm2 8 1 (18 + a) = nI cw from by rw [z5, g4.low (by omega)]; exact ecw) ⟨hcw1, hcw2⟩ y1 g2 hK
            have hTd : Tc d A' wc' (wup wm2 8 12 A (nI c)) := z7.close z6 hA e14
            by_cases hbt : cw.testBit c = true
            · rw [if_pos hbt, if_neg (by decide), hW'.2.2.1, (choice_spec (cc_of hV hC' (bandN_lt T)) (by omega) h5).2 g2, Option.bind_some]
              dsimp only
              by_cases hl : i + 1 < K
              · rw [if_pos ⟨hbt, hl⟩] at hse
                rw [show chI ls K (i + 1) = some (ls (i + 1)) from if_pos hl, cM, show (nI i + 1 : Int32) = nI (i + 1) from nI_add i 1]
                have hSmn : Sm d wm2 (wup (wup wm2 8 12 A (nI c)) 8 9 d (nI (i + 1))) := by
                  refine (code_Sm (A := A) (y := nI c)).trans ⟨fun g c h => by rw [wup_row, if_neg (by omega)], fun c h => by rw [wup_row, if_neg (by omega)], fun i _ _ _ => by rw [wup_at, if_neg (by omega)], fun e h c hc => by rw [wup_at, if_neg (by omega)], fun j h => by rw [wup_at, if_neg (by omega)]⟩
                have hrow : (wup (wup wm2 8 12 A (nI c)) 8 9 d (nI (i + 1))) 8 1 = wm 8 1 := by rw [wup_row, if_neg (by omega), wup_row, if_neg (by omega)]; exact z5
                have hF2 : Fr (wup (wup wm2 8 12 A (nI c)) 8 9 d (nI (i + 1))) d a mk K ls (i + 1) := by
                  obtain ⟨f5, f6, f8, f9, f7⟩ := z4
                  refine ⟨?_, ?_, ?_, ?_, fun j hj => ?_⟩
                  · rw [wup_at, if_neg (by omega), wup_at, if_neg (by omega)]; exact f5
                  · rw [wup_at, if_neg (by omega), wup_at, if_neg (by omega)]; exact f6
                  · rw [wup_at, if_neg (by omega), wup_at, if_neg (by omega)]; exact f8
                  · rw [wup_at, if_pos ⟨rfl, rfl, rfl⟩]
                  · rw [wup_at, if_neg (by omega), wup_at, if_neg (by omega)]; exact f7 j hj
                have hT2 : Tc d A' wc' (wup (wup wm2 8 12 A (nI c)) 8 9 d (nI (i + 1))) := hTd.keepm (by rw [wup_at, if_neg (by omega)]) (by rw [wup_row, if_neg (by omega)]) (by rw [wup_row, if_neg (by omega)]) (fun j _ => by rw [wup_at, if_neg (by omega)])
                have hMk2 : Mk d M (wup (wup wm2 8 12 A (nI c)) 8 9 d (nI (i + 1))) := g5.keep (fun e he => by rw [hSmn.2.2.2.1 e he 5 (by omega), z2.2.2.2.1 e he 5 (by omega)])
                obtain ⟨c2, wc2, wm2', A2, k2, b1, b2, b3, b4, b5, b6, b7, b8⟩ := ihm (i + 1) A' (nI c) wc' (wup (wup wm2 8 12 A (nI c)) 8 9 d (nI (i + 1))) fu0 (by omega) hl hW' (g4.keep hrow) hMk2 (by rw [wup_at, if_neg (by omega), wup_at, if_neg (by omega)]; exact z3) hF2 hT2 (by omega)
                have hKm : (K - (i + 1)) * Ex (x + 1) = m * Ex (x + 1) := by rw [show K - (i + 1) = m from by omega]
                refine ⟨c2, wc2, wm2', A2, k + k2 + 1, b1, by omega, b3, fun fu => ?_, y4.trans b5, (z2.trans hSmn).trans b6, by omega, ?_⟩
                · rw [show k + k2 + 1 + fu + 1 = k + (k2 + fu + 1) + 1 from by omega, z1, hse, Option.bind_some]
                  exact b4 fu
                · rw [hrow] at b8
                  exact b8
              · rw [if_neg (fun h => hl h.2)] at hse
                obtain ⟨fu1, rfl⟩ : ∃ z, fu0 = z + 1 := ⟨fu0 - 1, by omega⟩
                rw [show chI ls K (i + 1) = none from if_neg hl]
                refine ⟨c, wc', wup wm2 8 12 A (nI c), A', k + 1, y1, by omega, ?_, fun fu => ?_, y4, z2.trans code_Sm, by omega, Or.inl ⟨c0, by rw [wup_at, if_neg (by omega)]; exact z3, by rw [wup_row, if_neg (by omega)]; exact z5, hTd⟩⟩
                · rw [h_X3_tryRoutes_45, b_X3_tryRoutes_45]
                  split
                  · rfl
                  · rw [if_pos (show cM none = -9 from rfl)]
                · rw [show k + 1 + fu + 1 = k + (fu + 1) + 1 from by omega, z1, hse, Option.bind_some]
            · rw [if_neg (fun h => hbt h.1)] at hse
              rw [if_neg hbt, if_pos (show nI 0 = 0 from rfl)]
              refine ⟨c, wc', wup wm2 8 12 A (nI c), A', k + 1, y1, by omega, rfl, fun fu => ?_, y4, z2.trans code_Sm, by omega, Or.inl ⟨c0, by rw [wup_at, if_neg (by omega)]; exact z3, by rw [wup_row, if_neg (by omega)]; exact z5, hTd⟩⟩
              rw [show k + 1 + fu + 1 = k + (fu + 1) + 1 from by omega, z1, hse, Option.bind_some]
          · subst c0
            rw [(bit_0 cw hcw1 hcw2).1, if_pos (by decide)]
            exact ⟨0, wc', wm3, A', k, by omega, by omega, rfl, z1, y4, z2, by omega, Or.inr ⟨rfl, D, z3⟩⟩
    exact key (K - i) i A y8 wc wm fu0 rfl h4 h6 h7 h8 h10 h11 h12 h13
