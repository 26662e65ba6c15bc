/-- behind a route: the next one is at hand -/
theorem next_ok {R d a M s K i : Nat} {c : Nat → Nat} {v0 : Nat → Int32} {mk : Option Nat} {ls : Nat → Nat} {wm W : Wd} (h8 : wm 8 1 = v0) (hk : Mk d M wm) (hF : Fr wm d a mk K ls i) (hK : K ≤ 40) (hP : Pa R c d s wm) (hA : Ar (d + 1) wm W) : Ar d wm (wup (wup W 8 0 12 (nI d)) 8 9 d (nI (i + 1))) ∧ wup (wup W 8 0 12 (nI d)) 8 9 d (nI (i + 1)) 8 1 = v0 ∧ Mk d M (wup (wup W 8 0 12 (nI d)) 8 9 d (nI (i + 1))) ∧ wup (wup W 8 0 12 (nI d)) 8 9 d (nI (i + 1)) 8 0 12 = nI d ∧ Fr (wup (wup W 8 0 12 (nI d)) 8 9 d (nI (i + 1))) d a mk K ls (i + 1) ∧ Pa R c d s (wup (wup W 8 0 12 (nI d)) 8 9 d (nI (i + 1))) := by
  have hA' : Ar d wm (wup (wup W 8 0 12 (nI d)) 8 9 d (nI (i + 1))) := by
    refine ⟨fun g c hg => ?_, fun c h => ?_, fun i h5 h12 => ?_, fun e he c h => ?_, fun j hj => ?_⟩
    · rw [wup_row, if_neg (by omega), wup_row, if_neg (by omega)]; exact hA.1 g c hg
    · rw [wup_row, if_neg (by omega), wup_row, if_neg (by omega)]; exact hA.2.1 c h
    · rw [wup_at, if_neg (by omega), wup_at, if_neg (by omega)]; exact hA.2.2.1 i h5 h12
    · rw [wup_at, if_neg (by omega), wup_at, if_neg (by omega)]; exact hA.2.2.2.1 e (by omega) c h
    · rw [wup_at, if_neg (by omega), wup_at, if_neg (by omega)]; exact hA.2.2.2.2 j (by omega)
  obtain ⟨f5, f6, f8, f9, f7⟩ := hF
  refine ⟨hA', (hA'.2.1 1 (by omega)).trans h8, hk.keep (fun e he => hA'.2.2.2.1 e he 5 (by omega)), ?_, ⟨?_, ?_, ?_, ?_, fun j hj => ?_⟩, hP.keep hA'⟩
  · rw [wup_at, if_neg (by omega), wup_at, if_pos ⟨rfl, rfl, rfl⟩]
  · rw [wup_at, if_neg (by omega), wup_at, if_neg (by omega), hA.2.2.2.1 d (by omega) 5 (by omega)]; exact f5
  · rw [wup_at, if_neg (by omega), wup_at, if_neg (by omega), hA.2.2.2.1 d (by omega) 6 (by omega)]; exact f6
  · rw [wup_at, if_neg (by omega), wup_at, if_neg (by omega), hA.2.2.2.1 d (by omega) 8 (by omega)]; exact f8
  · rw [wup_at, if_pos ⟨rfl, rfl, rfl⟩]
  · rw [wup_at, if_neg (by omega), wup_at, if_neg (by omega), hA.2.2.2.2 _ (by omega)]; exact f7 j hj
theorem b53_try {rc : Wd → Int32 → Int32 → Int32 → Option (Int32 × Wd)} {d a K i r o x : Nat} {mk : Option Nat} {ls : Nat → Nat} {wm : Wd} {y2 y3 y4 : Int32} (hd : d < 6) (ed : wm 8 0 12 = nI d) (hF : Fr wm d a mk K ls i) (hi : i < K) (hK : K ≤ 40) (hr : ls i = r) (hr40 : r < 40) (ho : o < 8) (hx : x < 8) (q8 : wm 8 1 (30 + 8 * r) = nI o) (q10 : wm 8 1 (30 + 8 * r + 2) = nI x) : b_X10_cheapest_53 rc wm y2 y3 y4 = if o = x then j_X10_cheapest_160 rc wm y2 y3 y4 (nI d) 0 else (f_X10_arrives wm (nI x) y2 (mM mk)).bind fun q => j_X10_cheapest_160 rc q.2 y2 y3 y4 (nI d) q.1 := by
  obtain ⟨f5, f6, f8, f9, f7⟩ := hF
  have hib : ib (nI d) 8 = true := ibT (by omega) (by omega)
  rw [b_X10_cheapest_53, if_neg (by rw [ed]; exact nI_pos (by omega)), if_pos (by rw [ed]; exact hib), if_pos (by rw [ed]; exact hib), ed, nI_clamp (by omega), f9, f8, if_neg (by rw [nI_eq (by omega) (by omega)]; omega), atHand_spec (by omega) (by omega) ed f9 (f7 i hi), Option.bind_some]
  dsimp only
  rw [hr, ed, leti, mServes hr40 ho hx q8 q10, Option.bind_some]
  dsimp only
  by_cases hs : o = x
  · rw [if_pos hs, if_pos hs, if_neg (by decide)]
  · rw [if_neg hs, if_neg hs, if_pos (by decide), show (2 : Int32) = nI 2 from rfl, of_spec hr40 (by omega), Option.bind_some]
    dsimp only
    rw [if_pos (by rw [ed]; exact hib), ed, nI_clamp (by omega), f6, q10]
theorem b53_pop {rc : Wd → Int32 → Int32 → Int32 → Option (Int32 × Wd)} {d K i : Nat} {wm : Wd} {y2 y3 y4 : Int32} (hd : d < 6) (ed : wm 8 0 12 = nI (d + 1)) (e9 : wm 8 9 (d + 1) = nI K) (e8 : wm 8 8 (d + 1) = nI K) (ei : wm 8 9 d = nI i) : b_X10_cheapest_53 rc wm y2 y3 y4 = rc (wup (wup wm 8 0 12 (nI d)) 8 9 d (nI (i + 1))) y2 y3 y4 := by
  have hib : ib (nI (d + 1)) 8 = true := ibT (by omega) (by omega)
  have hib' : ib (nI d) 8 = true := ibT (by omega) (by omega)
  have g0 : wup wm 8 0 12 (nI d) 8 0 12 = nI d := by rw [wup_at, if_pos ⟨rfl, rfl, rfl⟩]
  have g9 : wup wm 8 0 12 (nI d) 8 9 d = nI i := by rw [wup_at, if_neg (by omega)]; exact ei
  rw [b_X10_cheapest_53, if_neg (by rw [ed]; exact nI_pos (by omega)), if_pos (by rw [ed]; exact hib), if_pos (by rw [ed]; exact hib), ed, nI_clamp (by omega), e9, e8, if_pos rfl, show (nI (d + 1) - 1 : Int32) = nI d from by rw [show (1 : Int32) = nI 1 from rfl, nI_sub (by omega)]; rfl, letw, if_neg (by rw [g0]; exact nI_pos (by omega)), if_pos (by rw [g0]; exact hib'), if_pos (by rw [g0]; exact hib'), g0, nI_clamp (by omega), g9, letw, nI_1]
theorem chp_loop {t S R P T n L Lim : Nat} {v0 : Nat → Int32} {N0 : Nat → Nat → Int32} {tg : Option Nat} {mf : Nat → Option Nat → Option Nat} (J : Kc t S R P T n L Lim v0 N0 tg mf) : ∀ (x d : Nat), d + x = 6 → ∀ (m a M s B i K : Nat) (mk : Option Nat) (ls : Nat → Nat) (wm : Wd), K - i = m → d < Lim → a < S → okM S mk → i ≤ K → Srt (mb (dn n L mk) a R (owv v0) (prv v0)) (cov v0 (bandN T)) ls K R → wm 8 1 = v0 → Mk d M wm → M.testBit a = false → wm 8 0 12 = nI d → Fr wm d a mk K ls i → Pa R (cv (owv v0) (nxv v0) (cov v0 (bandN T))) d s wm → s ≤ 1000 * d → B ≤ 1000000 →
    ∃ k wm', k ≤ m * Ex x ∧ (∀ fu, h_X10_cheapest_53 (k + fu + 1) wm (nI n) (nI (bandN T)) (bC B) = h_X10_cheapest_53 (fu + 1) wm' (nI n) (nI (bandN T)) (bC (min B (s + mnF (fun j => gf n L R (owv v0) (prv v0) (nxv v0) (cov v0 (bandN T)) (mc n L Lim R (owv v0) (prv v0) (nxv v0) (cov v0 (bandN T)) mf x) a M mk (ls j)) i m)))) ∧ Ar d wm wm' ∧ wm' 8 0 12 = nI d ∧ wm' 8 9 d = nI K ∧ wm' 8 8 d = nI K := by
  obtain ⟨hV, hC, ⟨eT, hT⟩, ⟨eL, hL1, hL6⟩, ⟨hn1, hn9, hnL, hL9⟩, htg, hsw, hmf⟩ := id J
  have hS := hV.1.1
  have hR := hV.1.2.1
  have hb := bandN_lt T
  intro x
  induction x with
  | zero => intro d hd m a M s B i K mk ls wm _ hdL; omega
  | succ x ih =>
    intro d hd m
    induction m with
    | zero =>
      intro a M s B i K mk ls wm hm hdL ha hmk hi hSr h8 hk hv ed hF hP hs hB
      refine ⟨0, wm, by omega, fun fu => ?_, Ar.refl _ _, ed, ?_, hF.2.2.1⟩
      · rw [mnF, show min B (s + 1000000) = B from by omega, Nat.zero_add]
      · rw [hF.2.2.2.1, show i = K from by omega]
    | succ m ihm =>
      intro a M s B i K mk ls wm hm hdL ha hmk hi hSr h8 hk hv ed hF hP hs hB
      have hK := hSr.1
      obtain ⟨hrR, hmb⟩ := hSr.2.1 i (by omega)
      obtain ⟨q1, q2, q3, q4, q5, q6, q7, q8⟩ := rtv hV hb hrR
      have hoa := (mb_T.mp hmb).1
      have hF' := hF
      obtain ⟨f5, f6, f8, f9, f7⟩ := hF'
      have hP1 := hP.next hF (by omega) (by omega) hrR
      have hcv := cv_le hV hb hrR
      have hgl := mnF_le (f := fun j => gf n L R (owv v0) (prv v0) (nxv v0) (cov v0 (bandN T)) (mc n L Lim R (owv v0) (prv v0) (nxv v0) (cov v0 (bandN T)) mf (x + 1)) a M mk (ls j)) m (i + 1)
      -- a step that ends at the next route
      have fin : ∀ (k1 B1 g : Nat) (W : Wd), k1 + 1 ≤ Ex (x + 1) → Ar (d + 1) wm W → B1 = min B (s + g) → gf n L R (owv v0) (prv v0) (nxv v0) (cov v0 (bandN T)) (mc n L Lim R (owv v0) (prv v0) (nxv v0) (cov v0 (bandN T)) mf (x + 1)) a M mk (ls i) = g → (∀ F, h_X10_cheapest_53 (k1 + F + 1) wm (nI n) (nI (bandN T)) (bC B) = h_X10_cheapest_53 F (wup (wup W 8 0 12 (nI d)) 8 9 d (nI (i + 1))) (nI n) (nI (bandN T)) (bC B1)) →
          ∃ k wm', k ≤ (m + 1) * Ex (x + 1) ∧ (∀ fu, h_X10_cheapest_53 (k + fu + 1) wm (nI n) (nI (bandN T)) (bC B) = h_X10_cheapest_53 (fu + 1) wm' (nI n) (nI (bandN T)) (bC (min B (s + mnF (fun j => gf n L R (owv v0) (prv v0) (nxv v0) (cov v0 (bandN T)) (mc n L Lim R (owv v0) (prv v0) (nxv v0) (cov v0 (bandN T)) mf (x + 1)) a M mk (ls j)) i (m + 1))))) ∧ Ar d wm wm' ∧ wm' 8 0 12 = nI d ∧ wm' 8 9 d = nI K ∧ wm' 8 8 d = nI K := by
        intro k1 B1 g W hk1 hA hB1 hg hst
        obtain ⟨n1, n2, n3, n4, n5, n6⟩ := next_ok h8 hk hF (by omega) hP hA
        obtain ⟨k, wm', p1, p2, p3, p4, p5, p6⟩ := ihm a M s B1 (i + 1) K mk ls _ (by omega) hdL ha hmk (by omega) hSr n2 n3 hv n4 n5 n6 hs (by omega)
        refine ⟨k1 + 1 + k, wm', ?_, fun fu => ?_, n1.trans p3, p4, p5, p6⟩
        · rw [Nat.add_mul, Nat.one_mul]; omega
        · rw [show k1 + 1 + k + fu + 1 = k1 + (k + fu + 1) + 1 from by omega, hst, p2, mnF, hg]
          congr 2
          omega
      have hct : ∀ W, Ar (d + 1) wm W → f_X10_costsTo W (nI d) (nI (bandN T)) = some (nI (s + cv (owv v0) (nxv v0) (cov v0 (bandN T)) (ls i)), W) := fun W hA => costsTo_spec hV ((hA.2.1 1 (by omega)).trans h8) hb (by omega) (hP1.keep hA)
      have hE : 40 * Ex x + 4 = Ex (x + 1) := rfl
      have stp : ∀ F, h_X10_cheapest_53 (F + 1) wm (nI n) (nI (bandN T)) (bC B) = if owv v0 (ls i) = nxv v0 (ls i) then j_X10_cheapest_160 (h_X10_cheapest_53 F) wm (nI n) (nI (bandN T)) (bC B) (nI d) 0 else (f_X10_arrives wm (nI (nxv v0 (ls i))) (nI n) (mM mk)).bind fun q => j_X10_cheapest_160 (h_X10_cheapest_53 F) q.2 (nI n) (nI (bandN T)) (bC B) (nI d) q.1 := by
        intro F
        rw [h_X10_cheapest_53, b53_try (by omega) ed hF (by omega) (by omega) rfl (by omega) (show owv v0 (ls i) < 8 by omega) (show nxv v0 (ls i) < 8 by omega) (by rw [h8]; exact q5) (by rw [h8]; exact q7)]
      have dep : ∀ W : Wd, W 8 0 12 = nI d → W = wup W 8 0 12 (nI d) := fun W h => by rw [← h, wup_self]
      by_cases hsv : owv v0 (ls i) = nxv v0 (ls i)
      · refine fin 0 (min B s) 0 wm (by omega) (Ar.refl _ _) (by omega) (by rw [gf, if_pos hmb, if_pos hsv]) (fun F => ?_)
        rw [Nat.zero_add, stp, if_pos hsv, j160_0 (by omega) f9 (hct wm (Ar.refl _ _)) (by omega) hB, ← dep wm ed, cv, if_pos hsv, show s + 0 = s from rfl]
      · have hcvr : cv (owv v0) (nxv v0) (cov v0 (bandN T)) (ls i) = cov v0 (bandN T) (ls i) := by rw [cv, if_neg hsv]
        have hgf : gf n L R (owv v0) (prv v0) (nxv v0) (cov v0 (bandN T)) (mc n L Lim R (owv v0) (prv v0) (nxv v0) (cov v0 (bandN T)) mf (x + 1)) a M mk (ls i) = cov v0 (bandN T) (ls i) + mc n L Lim R (owv v0) (prv v0) (nxv v0) (cov v0 (bandN T)) mf (x + 1) (nxv v0 (ls i)) (M ||| 2 ^ a) mk := by
          rw [gf, if_pos hmb, if_neg hsv]
        have hM := hk.1
        have hMk' : Mk (d + 1) (M ||| 2 ^ a) wm := by
          refine ⟨or_lt M hM a (by omega), by rw [pop_or M hM a (by omega) hv, hk.2.1], fun a' ha' => ?_⟩
          rw [Nat.testBit_or, Nat.testBit_two_pow]
          constructor
          · intro h
            rcases Bool.or_eq_true_iff.mp h with h | h
            · obtain ⟨e, h1, h2⟩ := (hk.2.2 a' ha').mp h
              exact ⟨e, by omega, h2⟩
            · exact ⟨d, by omega, by rw [f5, of_decide_eq_true h]⟩
          · rintro ⟨e, h1, h2⟩
            apply Bool.or_eq_true_iff.mpr
            by_cases he : e = d
            · rw [he, f5, nI_eq (by omega) (by omega)] at h2
              exact Or.inr (decide_eq_true h2)
            · exact Or.inl ((hk.2.2 a' ha').mpr ⟨e, by omega, h2⟩)
        obtain ⟨A1, A2, A3⟩ := arr_m J h8 hMk' (by omega) (by rw [ed, nI_sub (by omega)]; rfl) q3 hmk
        by_cases hbl : (M ||| 2 ^ a).testBit (nxv v0 (ls i)) = true ∨ Lim ≤ pop (M ||| 2 ^ a)
        · obtain ⟨c, hc, hca⟩ := A1 hbl
          refine fin 0 B _ wm (by omega) (Ar.refl _ _) ?_ hgf (fun F => ?_)
          · rw [mc_b hbl]; omega
          · rw [Nat.zero_add, stp, if_neg hsv, hca, Option.bind_some]
            dsimp only
            rw [j160_c (by omega) f9 (hct wm (Ar.refl _ _)) (by omega) (by omega), ← dep wm ed]
        · by_cases hma : mf (nxv v0 (ls i)) mk = some (nxv v0 (ls i))
          · refine fin 0 (min B (s + cov v0 (bandN T) (ls i))) _ wm (by omega) (Ar.refl _ _) ?_ hgf (fun F => ?_)
            · rw [mc_t hbl hma, Nat.add_zero]
            · rw [Nat.zero_add, stp, if_neg hsv, A2 hbl hma, Option.bind_some]
              dsimp only
              rw [show nI 0 = 0 from rfl, j160_0 (by omega) f9 (hct wm (Ar.refl _ _)) (by omega) hB, ← dep wm ed, hcvr]
          · obtain ⟨K', ls', W, s1, s2, s3⟩ := A3 hbl hma
            have hmn := srt_mn (g := gf n L R (owv v0) (prv v0) (nxv v0) (cov v0 (bandN T)) (mc n L Lim R (owv v0) (prv v0) (nxv v0) (cov v0 (bandN T)) mf x) (nxv v0 (ls i)) (M ||| 2 ^ a) (mf (nxv v0 (ls i)) mk)) s1 (fun r _ h => by rw [gf, if_neg h])
            have hmcg : mc n L Lim R (owv v0) (prv v0) (nxv v0) (cov v0 (bandN T)) mf (x + 1) (nxv v0 (ls i)) (M ||| 2 ^ a) mk = _ := (mc_g hbl hma).trans hmn.symm
            have w9 : W 8 9 d = nI i := by rw [s2.2.2.2.1 d (by omega) 9 (by omega)]; exact f9
            rcases s3 with ⟨hK0, t1, t2⟩ | ⟨hK0, t1, t2, t3⟩
            · refine fin 0 B _ W (by omega) s2 ?_ hgf (fun F => ?_)
              · rw [hmcg, hK0, mnF]; omega
              · rw [Nat.zero_add, stp, if_neg hsv, t1, Option.bind_some]
                dsimp only
                rw [j160_c (by omega) w9 (hct W s2) (by omega) (by omega), ← dep W (t2.trans ed)]
            · have hvn : (M ||| 2 ^ a).testBit (nxv v0 (ls i)) = false := by
                cases h : (M ||| 2 ^ a).testBit (nxv v0 (ls i)) with
                | false => rfl
                | true => exact absurd (Or.inl h) hbl
              have hpl : d + 1 < Lim := by
                have h1 := hMk'.2.1
                by_cases h2 : Lim ≤ d + 1
                · exact absurd (Or.inr (by omega)) hbl
                · omega
              have hok' := (hmf (nxv v0 (ls i)) mk q3 hmk).1
              have w8 : W 8 1 = v0 := (s2.2.1 1 (by omega)).trans h8
              have hMkW : Mk (d + 1) (M ||| 2 ^ a) W := hMk'.keep (fun e he => s2.2.2.2.1 e he 5 (by omega))
              obtain ⟨k', W', p1, p2, p3, p4, p5, p6⟩ := ih (d + 1) (by omega) K' (nxv v0 (ls i)) (M ||| 2 ^ a) (s + cv (owv v0) (nxv v0) (cov v0 (bandN T)) (ls i)) B 0 K' (mf (nxv v0 (ls i)) mk) ls' W (by omega) hpl q3 hok' (by omega) s1 w8 hMkW hvn t2 t3 (hP1.keep s2) (by omega) hB
              have hK'40 := s1.1
              have hk' : k' ≤ 40 * Ex x := Nat.le_trans p1 (Nat.mul_le_mul_right _ (by omega))
              have w9' : W' 8 9 d = nI i := by rw [p3.2.2.2.1 d (by omega) 9 (by omega)]; exact w9
              refine fin (k' + 1) _ _ W' (by omega) (s2.trans p3) rfl rfl (fun F => ?_)
              rw [show k' + 1 + F + 1 = (k' + F + 1) + 1 from by omega, stp, if_neg hsv, t1, Option.bind_some]
              dsimp only
              rw [j160_g (by omega) (hct W s2), p2, h_X10_cheapest_53, b53_pop (by omega) p4 p5 p6 w9', hgf, hmcg, hcvr, Nat.add_assoc]
