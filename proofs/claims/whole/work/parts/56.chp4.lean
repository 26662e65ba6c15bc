theorem Ar.refl (d : Nat) (w : Wd) : Ar d w w := ⟨fun _ _ _ => rfl, fun _ _ => rfl, fun _ _ _ => rfl, fun _ _ _ _ => rfl, fun _ _ => rfl⟩
theorem Ar.trans {d : Nat} {w w' w'' : Wd} (h : Ar d w w') (k : Ar d w' w'') : Ar d w w'' := ⟨fun g c x => (k.1 g c x).trans (h.1 g c x), fun c x => (k.2.1 c x).trans (h.2.1 c x), fun i a b => (k.2.2.1 i a b).trans (h.2.2.1 i a b), fun e x c y => (k.2.2.2.1 e x c y).trans (h.2.2.2.1 e x c y), fun j x => (k.2.2.2.2 j x).trans (h.2.2.2.2 j x)⟩
theorem Ar.mono {d d' : Nat} {w w' : Wd} (h : Ar d' w w') (hd : d ≤ d') : Ar d w w' := ⟨h.1, h.2.1, h.2.2.1, fun e x c y => h.2.2.2.1 e (by omega) c y, fun j x => h.2.2.2.2 j (by omega)⟩
theorem arr_m {t S R P T n L Lim d a M : Nat} {v0 : Nat → Int32} {N0 : Nat → Nat → Int32} {tg mk : Option Nat} {mf : Nat → Option Nat → Option Nat} {wm : Wd} (J : Kc t S R P T n L Lim v0 N0 tg mf) (h8 : wm 8 1 = v0) (hk : Mk d M wm) (hd : d ≤ Lim) (ed : wm 8 0 12 = nI d - nI 1) (ha : a < S) (hmk : okM S mk) :
    ((M.testBit a = true ∨ Lim ≤ pop M) → ∃ c, (c = 3 ∨ c = 4) ∧ f_X10_arrives wm (nI a) (nI n) (mM mk) = some (nI c, wm)) ∧
    (¬ (M.testBit a = true ∨ Lim ≤ pop M) → mf a mk = some a → f_X10_arrives wm (nI a) (nI n) (mM mk) = some (nI 0, wm)) ∧
    (¬ (M.testBit a = true ∨ Lim ≤ pop M) → ¬ mf a mk = some a → ∃ K ls wm', Srt (mb (dn n L (mf a mk)) a R (owv v0) (prv v0)) (cov v0 (bandN T)) ls K R ∧ Ar d wm wm' ∧ ((K = 0 ∧ f_X10_arrives wm (nI a) (nI n) (mM mk) = some (nI 1, wm') ∧ wm' 8 0 12 = wm 8 0 12) ∨ (0 < K ∧ f_X10_arrives wm (nI a) (nI n) (mM mk) = some (-1, wm') ∧ wm' 8 0 12 = nI d ∧ Fr wm' d a (mf a mk) K ls 0))) := by
  obtain ⟨hV, hC, ⟨eT, hT⟩, ⟨eL, hL1, hL6⟩, ⟨hn1, hn9, hnL, hL9⟩, htg, hsw, hmf⟩ := J
  obtain ⟨k1, k2, k3⟩ := hk
  have hS := hV.1.1
  have hR := hV.1.2.1
  have hlow : ∀ j, j < 30 ∨ 350 ≤ j → wm 8 1 j = v0 j := fun j hj => by rw [h8]
  have hstart : f_X10_arrives wm (nI a) (nI n) (mM mk) = h_X10_arrives_11 FU wm (nI a) (nI n) (mM mk) (nI d) (nI 0) := by
    rw [f_X10_arrives, ed, leti, show (nI d - nI 1 + 1 : Int32) = nI d from by rw [show (1 : Int32) = nI 1 from rfl, Int32.sub_add_cancel]]; rfl
  by_cases hv : M.testBit a = true
  · obtain ⟨e, he1, he2⟩ := (k3 a (by omega)).mp hv
    refine ⟨fun _ => ⟨3, Or.inl rfl, ?_⟩, fun h => absurd (Or.inl hv) h, fun h => absurd (Or.inl hv) h⟩
    rw [hstart, av_T (by omega) d 0 FU rfl (by rw [FU_eq]; omega) ⟨e, by omega, he1, he2⟩]; rfl
  have hnv : ∀ e', 0 ≤ e' → e' < d → wm 8 5 e' ≠ nI a := fun e' _ h2 h3 => hv ((k3 a (by omega)).mpr ⟨e', h2, h3⟩)
  have hav := av_F (y2 := nI n) (y3 := mM mk) (show d ≤ 8 by omega) d 0 FU rfl (by omega) (by rw [FU_eq]; omega) hnv
  rw [b_X10_arrives_11, if_pos (by rw [nI_leI (by omega) (by omega)]; omega), if_pos (show ib 3 640 = true from rfl), show Int32.toNatClampNeg 3 = 3 from rfl] at hav
  by_cases hdl : d = Lim
  · refine ⟨fun _ => ⟨4, Or.inr rfl, ?_⟩, fun h => absurd (Or.inr (by omega)) h, fun h => absurd (Or.inr (by omega)) h⟩
    rw [hstart, hav, if_pos (by rw [hlow 3 (by omega), eL, hdl])]; rfl
  obtain ⟨m1, m2, -, m3⟩ := hmf a mk ha hmk
  have m3' := m3 wm (nI d) hlow
  unfold mrk at m3'
  rw [if_neg (by rw [hlow 3 (by omega), eL, nI_eq (by omega) (by omega)]; exact hdl), m3'] at hav
  refine ⟨fun h => ?_, fun _ hma => ?_, fun _ hma => ?_⟩
  · rcases h with h | h
    · exact absurd h hv
    · omega
  · rw [hstart, hav, j_X10_arrives_100, hma, mM, if_pos rfl]; rfl
  generalize mf a mk = mk' at *
  have hmma : ¬ mM mk' = nI a := by
    cases mk' with
    | none => rw [mM, show (-1 : Int32) = - nI 1 from rfl, nI_neg' (by omega) (by omega) (by omega)]; exact id
    | some q => rw [mM, nI_eq (by have := m1 q rfl; omega) (by omega)]; exact fun h => hma (by rw [h])
  obtain ⟨m, w1, d1, d2, d3⟩ := dials_spec (w := wm) hnL hn9 hL9 hS m1
  have e81 : w1 8 1 = wm 8 1 := d3.1 8 1 (by omega)
  have hct : Ct w1 R (bandN T) T (owv v0) (prv v0) (cov v0 (bandN T)) := ct_of hV hT eT (by rw [e81]; exact hlow 1 (by omega)) (by rw [e81]; exact hlow 4 (by omega)) (fun r k _ hk => by rw [e81, h8])
  obtain ⟨K, ls, l', g1, g2, g3, g4⟩ := gathers_spec (base := 40 * d) (D := dn n L mk') hct d2 (show a < 8 by omega) (by omega)
  have hK := g2.1
  rw [j_X10_arrives_100, if_neg hmma, d1, Option.bind_some] at hav
  dsimp only at hav
  rw [show (40 * nI d : Int32) = nI (40 * d) from by rw [lit, nI_mul], g1, Option.bind_some] at hav
  dsimp only at hav
  have hF1 : Ar d wm (wr w1 8 7 l') := by
    refine ⟨fun g c hg => ?_, fun c h => ?_, fun i h5 h12 => ?_, fun e he c h => ?_, fun j hj => ?_⟩
    · rw [wr_at, if_neg (by omega), d3.1 g c (by omega)]
    · rw [wr_at, if_neg (by omega), d3.1 8 c (by omega)]
    · rw [wr_at, if_neg (by omega), d3.2 i h5]
    · rw [wr_at, if_neg (by omega), d3.1 8 c (by omega)]
    · rw [wr_at, if_pos ⟨rfl, rfl⟩, g4 j (by omega), d3.1 8 7 (by omega)]
  have e12 : (wr w1 8 7 l') 8 0 12 = wm 8 0 12 := by rw [wr_at, if_neg (by omega), d3.2 12 (by omega)]
  by_cases hK0 : K = 0
  · refine ⟨K, ls, wr w1 8 7 l', g2, hF1, Or.inl ⟨hK0, ?_, e12⟩⟩
    rw [hstart, hav, if_pos (show nI K = 0 by rw [hK0]; rfl)]; rfl
  · rw [if_neg (by rw [show (0 : Int32) = nI 0 from rfl, nI_eq (by omega) (by omega)]; exact hK0), letw, if_pos (ibT (by omega) (by omega)), nI_clamp (by omega), letw, if_pos (ibT (by omega) (by omega)), letw, if_pos (ibT (by omega) (by omega)), letw, if_pos (ibT (by omega) (by omega)), letw] at hav
    refine ⟨K, ls, _, g2, ?_, Or.inr ⟨by omega, hstart.trans hav, ?_, ?_, ?_, ?_, ?_, fun j hj => ?_⟩⟩
    · refine ⟨fun g c hg => ?_, fun c h => ?_, fun i h5 h12 => ?_, fun e he c h => ?_, fun j hj => ?_⟩
      · rw [wup_row, if_neg (by omega), wup_row, if_neg (by omega), wup_row, if_neg (by omega), wup_row, if_neg (by omega), wup_row, if_neg (by omega)]; exact hF1.1 g c hg
      · rw [wup_row, if_neg (by omega), wup_row, if_neg (by omega), wup_row, if_neg (by omega), wup_row, if_neg (by omega), wup_row, if_neg (by omega)]; exact hF1.2.1 c h
      · rw [wup_at, if_neg (by omega), wup_at, if_neg (by omega), wup_at, if_neg (by omega), wup_at, if_neg (by omega), wup_at, if_neg (by omega)]; exact hF1.2.2.1 i h5 h12
      · rw [wup_at, if_neg (by omega), wup_at, if_neg (by omega), wup_at, if_neg (by omega), wup_at, if_neg (by omega), wup_at, if_neg (by omega)]; exact hF1.2.2.2.1 e he c h
      · rw [wup_at, if_neg (by omega), wup_at, if_neg (by omega), wup_at, if_neg (by omega), wup_at, if_neg (by omega), wup_at, if_neg (by omega)]; exact hF1.2.2.2.2 j hj
    · rw [wup_at, if_neg (by omega), wup_at, if_neg (by omega), wup_at, if_neg (by omega), wup_at, if_neg (by omega), wup_at, if_pos (by omega)]
    · rw [wup_at, if_neg (by omega), wup_at, if_neg (by omega), wup_at, if_neg (by omega), wup_at, if_pos (by omega)]
    · rw [wup_at, if_neg (by omega), wup_at, if_neg (by omega), wup_at, if_pos (by omega)]
    · rw [wup_at, if_neg (by omega), wup_at, if_pos (by omega)]
    · rw [wup_at, if_pos (by omega)]; rfl
    · rw [wup_at, if_neg (by omega), wup_at, if_neg (by omega), wup_at, if_neg (by omega), wup_at, if_neg (by omega), wup_at, if_neg (by omega), wr_at, if_pos ⟨rfl, rfl⟩]; exact g3 j hj
/-- in any order the least one is the same -/
theorem srt_mn {mb : Nat → Bool} {co ls g : Nat → Nat} {K R : Nat} (h : Srt mb co ls K R) (hg : ∀ r, r < R → ¬ mb r = true → g r = 1000000) : mnF (fun j => g (ls j)) 0 K = mnR g R := by
  obtain ⟨h1, h2, h3, h4⟩ := h
  apply Nat.le_antisymm
  · refine mnR_ge R (mnF_le K 0) (fun r hr => ?_)
    by_cases hm : mb r = true
    · obtain ⟨i, hi, e⟩ := h3 r hr hm
      have := mnF_at (f := fun j => g (ls j)) K 0 i (Nat.zero_le _) (by omega)
      rw [e] at this
      exact this
    · rw [hg r hr hm]; exact mnF_le K 0
  · refine mnF_ge K 0 (mnR_le R) (fun j _ hj => ?_)
    exact mnR_at R (ls j) (h2 j (by omega)).1
theorem costOf_m {t S R P b r : Nat} {v0 : Nat → Int32} {wm : Wd} (hV : Vd t v0 S R P) (h8 : wm 8 1 = v0) (hb : b < 3) (hr : r < R) : f_X10_costOf wm (nI r) (nI b) = some (nI (cv (owv v0) (nxv v0) (cov v0 b) r), wm) := by
  have hS := hV.1.1
  have hR := hV.1.2.1
  obtain ⟨q1, q2, q3, q4, q5, q6, q7, q8⟩ := rtv hV hb hr
  rw [f_X10_costOf, mServes (o := owv v0 r) (x := nxv v0 r) (by omega) (by omega) (by omega) (by rw [h8]; exact q5) (by rw [h8]; exact q7), Option.bind_some]
  dsimp only
  by_cases hs : owv v0 r = nxv v0 r
  · rw [if_pos hs, if_neg (by decide), cv, if_pos hs]; rfl
  · rw [if_neg hs, if_pos (by decide), show (3 + nI b : Int32) = nI (3 + b) from nI_add 3 b, of_spec (by omega) (by omega), Option.bind_some]
    dsimp only
    rw [h8, q8, cv, if_neg hs]
/-- the routes at hand up to a depth, and the sum of their costs -/
def Pa (R : Nat) (c : Nat → Nat) (d s : Nat) (wm : Wd) : Prop := ∃ sf pth tj : Nat → Nat, sf 0 = 0 ∧ sf d = s ∧ ∀ e, e < d → pth e < R ∧ tj e < 40 ∧ wm 8 9 e = nI (tj e) ∧ wm 8 7 (40 * e + tj e) = nI (pth e) ∧ sf (e + 1) = sf e + c (pth e)
theorem Pa.keep {R : Nat} {c : Nat → Nat} {d s : Nat} {w w' : Wd} (h : Pa R c d s w) (k : Ar d w w') : Pa R c d s w' := by
  obtain ⟨sf, pth, tj, h1, h2, h3⟩ := h
  refine ⟨sf, pth, tj, h1, h2, fun e he => ?_⟩
  obtain ⟨a1, a2, a3, a4, a5⟩ := h3 e he
  refine ⟨a1, a2, ?_, ?_, a5⟩
  · rw [k.2.2.2.1 e he 9 (by omega)]; exact a3
  · rw [k.2.2.2.2 _ (by omega)]; exact a4
theorem Pa.next {R : Nat} {c : Nat → Nat} {d s a K i : Nat} {mk : Option Nat} {ls : Nat → Nat} {w : Wd} (h : Pa R c d s w) (hF : Fr w d a mk K ls i) (hi : i < K) (hK : K ≤ 40) (hr : ls i < R) : Pa R c (d + 1) (s + c (ls i)) w := by
  obtain ⟨sf, pth, tj, h1, h2, h3⟩ := h
  obtain ⟨f5, f6, f8, f9, f7⟩ := hF
  refine ⟨fun e => if e ≤ d then sf e else s + c (ls i), fun e => if e < d then pth e else ls i, fun e => if e < d then tj e else i, ?_, ?_, fun e he => ?_⟩
  · dsimp only; rw [if_pos (by omega)]; exact h1
  · dsimp only; rw [if_neg (by omega)]
  · dsimp only
    by_cases hd : e < d
    · rw [if_pos hd, if_pos hd, if_pos (by omega), if_pos (by omega)]
      exact h3 e hd
    · have : e = d := by omega
      subst this
      rw [if_neg hd, if_neg hd, if_neg (by omega), if_pos (by omega), h2]
      exact ⟨hr, by omega, f9, f7 i hi, rfl⟩
theorem costsTo_spec {t S R P b d s : Nat} {v0 : Nat → Int32} {wm : Wd} (hV : Vd t v0 S R P) (h8 : wm 8 1 = v0) (hb : b < 3) (hd : d < 6) (h : Pa R (cv (owv v0) (nxv v0) (cov v0 b)) (d + 1) s wm) : f_X10_costsTo wm (nI d) (nI b) = some (nI s, wm) := by
  have hR := hV.1.2.1
  obtain ⟨sf, pth, tj, h1, h2, h3⟩ := h
  have loop : ∀ (m e fu : Nat), d + 1 - e = m → e ≤ d + 1 → m < fu → h_X10_costsTo_5 fu wm (nI d) (nI b) (nI (sf e)) (nI e) = some (nI (sf (d + 1)), wm) := by
    intro m
    induction m with
    | zero =>
      intro e fu x1 x2 x3
      obtain ⟨fu, rfl⟩ : ∃ z, fu = z + 1 := ⟨fu - 1, by omega⟩
      have : e = d + 1 := by omega
      subst this
      rw [h_X10_costsTo_5, b_X10_costsTo_5, if_pos (by rw [nI_ltI (by omega) (by omega)]; omega)]
    | succ m ih =>
      intro e fu x1 x2 x3
      obtain ⟨fu, rfl⟩ : ∃ z, fu = z + 1 := ⟨fu - 1, by omega⟩
      obtain ⟨a1, a2, a3, a4, a5⟩ := h3 e (by omega)
      rw [h_X10_costsTo_5, b_X10_costsTo_5, if_neg (by rw [nI_ltI (by omega) (by omega)]; omega), if_pos (ibT (by omega) (by omega)), nI_clamp (by omega), a3, show (40 * nI e + nI (tj e) : Int32) = nI (40 * e + tj e) from by rw [lit, nI_mul, nI_add], if_pos (ibT (by omega) (by omega)), nI_clamp (by omega), a4, costOf_m hV h8 hb a1, Option.bind_some]
      dsimp only
      rw [nI_add, ← a5, leti, nI_1]
      exact ih (e + 1) fu (by omega) (by omega) (by omega)
  have := loop (d + 1) 0 FU rfl (by omega) (by rw [FU_eq]; omega)
  rw [h1, h2] at this
  rw [f_X10_costsTo]
  exact this
theorem j195_s {rc : Wd → Int32 → Int32 → Int32 → Option (Int32 × Wd)} {w : Wd} {d i c : Nat} {y2 y3 z : Int32} (hd : d < 8) (hc : c < 2 ^ 31) (e9 : w 8 9 d = nI i) : j_X10_cheapest_195 rc w y2 y3 (nI c) (nI d) z = rc (wup w 8 9 d (nI (i + 1))) y2 y3 z := by
  rw [j_X10_cheapest_195, if_pos (ibT hd (by omega)), if_neg (nI_ne_m1 hc), if_pos (ibT hd (by omega)), nI_clamp (by omega), e9, letw, nI_1]
theorem bC_lt {B : Nat} (hB : B < 1000000) : bC B = nI B := if_neg (by omega)
theorem j160_0 {rc : Wd → Int32 → Int32 → Int32 → Option (Int32 × Wd)} {w : Wd} {d i z B : Nat} {y2 y3 : Int32} (hd : d < 8) (e9 : w 8 9 d = nI i) (hc : f_X10_costsTo w (nI d) y3 = some (nI z, w)) (hz : z < 1000000) (hB : B ≤ 1000000) : j_X10_cheapest_160 rc w y2 y3 (bC B) (nI d) 0 = rc (wup w 8 9 d (nI (i + 1))) y2 y3 (bC (min B z)) := by
  have hs : ∀ u, j_X10_cheapest_195 rc w y2 y3 0 (nI d) u = rc (wup w 8 9 d (nI (i + 1))) y2 y3 u := fun u => j195_s (c := 0) hd (by omega) e9
  rw [j_X10_cheapest_160, hc, Option.bind_some]
  dsimp only
  rw [if_pos rfl, hs, hs]
  by_cases h : B = 1000000
  · rw [h, if_pos (by decide), Nat.min_eq_right (by omega), bC_lt hz]
  · rw [bC_lt (B := B) (by omega), if_neg (nI_pos (by omega))]
    by_cases hle : B ≤ z
    · rw [if_pos (by rw [nI_leI (by omega) (by omega)]; exact hle), Nat.min_eq_left hle, bC_lt (by omega)]
    · rw [if_neg (by rw [nI_leI (by omega) (by omega)]; exact hle), Nat.min_eq_right (by omega), bC_lt (by omega)]
theorem j160_c {rc : Wd → Int32 → Int32 → Int32 → Option (Int32 × Wd)} {w : Wd} {d i c z : Nat} {y2 y3 y4 : Int32} (hd : d < 8) (e9 : w 8 9 d = nI i) (hc : f_X10_costsTo w (nI d) y3 = some (nI z, w)) (hc0 : c ≠ 0) (hc2 : c < 2 ^ 31) : j_X10_cheapest_160 rc w y2 y3 y4 (nI d) (nI c) = rc (wup w 8 9 d (nI (i + 1))) y2 y3 y4 := by
  rw [j_X10_cheapest_160, hc, Option.bind_some]
  dsimp only
  rw [if_neg (nI_ne_0 hc2 hc0), j195_s hd hc2 e9]
theorem j160_g {rc : Wd → Int32 → Int32 → Int32 → Option (Int32 × Wd)} {w : Wd} {d z : Nat} {y2 y3 y4 : Int32} (hd : d < 8) (hc : f_X10_costsTo w (nI d) y3 = some (nI z, w)) : j_X10_cheapest_160 rc w y2 y3 y4 (nI d) (-1) = rc w y2 y3 y4 := by
  rw [j_X10_cheapest_160, hc, Option.bind_some]
  dsimp only
  rw [if_neg (by decide), j_X10_cheapest_195, if_pos (ibT hd (by omega)), if_pos rfl, if_pos (ibT hd (by omega)), nI_clamp (by omega), show (w 8 9 d + 0 : Int32) = w 8 9 d from Int32.add_zero _, letw, wup_self]
