/-- the router's world in a search -/
def Wh (S R n L T : Nat) (v0 : Nat → Int32) (N0 : Nat → Nat → Int32) (tg : Option Nat) (wc : Wd) : Prop :=
  wc 0 = N0 ∧ wc 7 16 2 = nI n ∧ (∀ a u, a < S → u < S → wc 7 17 (8 * a + u) = nI (cm (dn n L none) R (owv v0) (prv v0) (nxv v0) (cov v0 (bandN T)) a u)) ∧ ∀ q, tg = some q → ∀ a u, a < S → u < S → wc 7 18 (8 * a + u) = nI (cm (dn n L (some q)) R (owv v0) (prv v0) (nxv v0) (cov v0 (bandN T)) a u)
theorem Wh.put {S R n L T : Nat} {v0 : Nat → Int32} {N0 : Nat → Nat → Int32} {tg : Option Nat} {wc : Wd} {y : Int32} (h : Wh S R n L T v0 N0 tg wc) : Wh S R n L T v0 N0 tg (wup wc 7 16 3 y) := by
  obtain ⟨h1, h2, h3, h4⟩ := h
  refine ⟨?_, ?_, fun a u ha hu => ?_, fun q hq a u ha hu => ?_⟩
  · rw [← h1]; funext c; rw [wup_row, if_neg (by omega)]
  · rw [wup_at, if_neg (by omega)]; exact h2
  · rw [wup_at, if_neg (by omega)]; exact h3 a u ha hu
  · rw [wup_at, if_neg (by omega)]; exact h4 q hq a u ha hu
theorem cb_spec {S R n L T a u : Nat} {v0 : Nat → Int32} {N0 : Nat → Nat → Int32} {tg mk : Option Nat} {wc : Wd} (hS : S ≤ 8) (h : Wh S R n L T v0 N0 tg wc) (ha : a < S) (hu : u < S) (hmk : mk = none ∨ mk = tg) (hok : okM S mk) : f_X1_costBetween wc (nI a) (nI u) (cM mk) = some (nI (cm (dn n L mk) R (owv v0) (prv v0) (nxv v0) (cov v0 (bandN T)) a u), wc) := by
  obtain ⟨h1, h2, h3, h4⟩ := h
  rw [f_X1_costBetween, show (nI a * 8 + nI u : Int32) = nI (8 * a + u) from by rw [lit, nI_mul, nI_add, Nat.mul_comm], leti, if_neg (nI_pos (by omega)), if_pos (by rw [lit, nI_ltI (by omega) (by omega)]; omega), if_pos (ibT (by omega) (by omega)), if_pos (ibT (by omega) (by omega)), nI_clamp (by omega)]
  cases mk with
  | none => rw [cM, if_pos rfl, h3 a u ha hu]
  | some q =>
    have hq := hok q rfl
    rw [cM, if_neg (nI_ne_m9 (by omega)), h4 q (by rcases hmk with h | h; cases h; exact h.symm) a u ha hu]
theorem cm_a {D R : Nat} {ow pr nx co : Nat → Nat} {a u : Nat} (h : cm D R ow pr nx co a u < 1000000) : ∃ r, r < R ∧ mb D a R ow pr r = true ∧ nx r = u ∧ cm D R ow pr nx co a u = cv ow nx co r := by
  unfold cm at h ⊢
  rcases mnR_ex (f := cf D R ow pr nx co a u) R with h1 | ⟨r, h1, h2⟩
  · omega
  · rw [h2] at h ⊢
    unfold cf at h ⊢
    by_cases hc : mb D a R ow pr r = true ∧ nx r = u
    · exact ⟨r, h1, hc.1, hc.2, if_pos hc⟩
    · rw [if_neg hc] at h; omega
/-- over the next switches, over the routes: the same least cost -/
theorem mn_same {n L R S a M : Nat} {ow pr nx co : Nat → Nat} {mk : Option Nat} {rec : Nat → Nat → Option Nat → Nat} (hnx : ∀ r, r < R → nx r < S) (h0 : cm (dn n L mk) R ow pr nx co a a ≠ 0) : mnF (fun u => cm (dn n L mk) R ow pr nx co a u + rec u (M ||| 2 ^ a) mk) 0 S = mnR (gf n L R ow pr nx co rec a M mk) R := by
  have hserve : ∀ r, r < R → mb (dn n L mk) a R ow pr r = true → ow r ≠ nx r := by
    intro r hr hm he
    have hoa := (mb_T.mp hm).1
    have := mnR_at (f := cf (dn n L mk) R ow pr nx co a a) R r hr
    rw [cf, if_pos ⟨hm, by omega⟩, cv, if_pos he] at this
    exact h0 (Nat.le_zero.mp this)
  apply Nat.le_antisymm
  · refine mnR_ge R (mnF_le S 0) (fun r hr => ?_)
    unfold gf
    by_cases hm : mb (dn n L mk) a R ow pr r = true
    · rw [if_pos hm, if_neg (hserve r hr hm)]
      have h1 := mnF_at (f := fun u => cm (dn n L mk) R ow pr nx co a u + rec u (M ||| 2 ^ a) mk) S 0 (nx r) (Nat.zero_le _) (by have := hnx r hr; omega)
      have h2 : cm (dn n L mk) R ow pr nx co a (nx r) ≤ co r := by
        have h2 := mnR_at (f := cf (dn n L mk) R ow pr nx co a (nx r)) R r hr
        rw [cf, if_pos ⟨hm, rfl⟩, cv, if_neg (hserve r hr hm)] at h2
        exact h2
      omega
    · rw [if_neg hm]; exact mnF_le S 0
  · refine mnF_ge S 0 (mnR_le R) (fun u _ hu => ?_)
    by_cases hi : cm (dn n L mk) R ow pr nx co a u < 1000000
    · obtain ⟨r, h1, h2, h3, h4⟩ := cm_a hi
      have h5 := mnR_at (f := gf n L R ow pr nx co rec a M mk) R r h1
      rw [gf, if_pos h2, if_neg (hserve r h1 h2)] at h5
      rw [h4, cv, if_neg (hserve r h1 h2), ← h3]
      exact h5
    · have := mnR_le (f := gf n L R ow pr nx co rec a M mk) R
      omega
theorem mn_zero {n L R a M : Nat} {ow pr nx co : Nat → Nat} {mk : Option Nat} {rec : Nat → Nat → Option Nat → Nat} (h0 : cm (dn n L mk) R ow pr nx co a a = 0) : mnR (gf n L R ow pr nx co rec a M mk) R = 0 := by
  obtain ⟨r, h1, h2, h3, h4⟩ := cm_a (D := dn n L mk) (R := R) (ow := ow) (pr := pr) (nx := nx) (co := co) (a := a) (u := a) (by omega)
  have hoa := (mb_T.mp h2).1
  have h5 := mnR_at (f := gf n L R ow pr nx co rec a M mk) R r h1
  rw [gf, if_pos h2, if_pos (by omega)] at h5
  omega
theorem cheap_c {t S R P T n L Lim : Nat} {v0 : Nat → Int32} {N0 : Nat → Nat → Int32} {tg : Option Nat} {mf : Nat → Option Nat → Option Nat} (J : Kc t S R P T n L Lim v0 N0 tg mf) : ∀ (x d a M s B : Nat) (mk : Option Nat) (wc : Wd), d + x = 7 → Wh S R n L T v0 N0 tg wc → M < 256 → pop M = d → a < S → (mk = none ∨ mk = tg) → s ≤ 1000 * d → B ≤ 1000000 → wc 7 16 3 = nI B →
    f_X1_arrive (3 + x) 0 wc (nI a) (nI M) (cM mk) (nI s) = some ((), wup wc 7 16 3 (nI (min B (s + mc n L Lim R (owv v0) (prv v0) (nxv v0) (cov v0 (bandN T)) mf x a M mk)))) := by
  obtain ⟨hV, hC, ⟨eT, hT⟩, ⟨eL, hL1, hL6⟩, ⟨hn1, hn9, hnL, hL9⟩, htg, hsw, hmf⟩ := J
  have hS := hV.1.1
  have hR := hV.1.2.1
  have hb := bandN_lt T
  have hnone : okM S none := fun q h => by cases h
  have same : ∀ (wc : Wd) (B : Nat), wc 7 16 3 = nI B → wc = wup wc 7 16 3 (nI B) := fun wc B h => by rw [← h, wup_self]
  have e7 : ∀ wc : Wd, wc 0 = N0 → p_X4_hopLimit 0 wc = nI Lim := fun wc c0 => by rw [p_X4_hopLimit, c0, hC.1.2.2.2.1, eL]
  intro x
  induction x with
  | zero =>
    intro d a M s B mk wc hd hW hM hp ha hmk hs hB e3
    have hmc : min B (s + mc n L Lim R (owv v0) (prv v0) (nxv v0) (cov v0 (bandN T)) mf 0 a M mk) = B := by
      rw [show mc n L Lim R (owv v0) (prv v0) (nxv v0) (cov v0 (bandN T)) mf 0 a M mk = 1000000 from rfl]; omega
    rw [hmc, ← same wc B e3, show 3 + 0 = 2 + 1 from rfl, f_X1_arrive, b_X1_arrive, leti]
    by_cases hv : M.testBit a = true
    · rw [if_neg (by rw [mask_tst hM (by omega), hv]; exact Bool.noConfusion)]
    · rw [if_pos (by rw [mask_tst hM (by omega)]; simpa using hv), e7 wc hW.1, bc_spec wc M hM, hp, if_pos (by rw [nI_leI (by omega) (by omega)]; omega)]
  | succ x ih =>
    intro d a M s B mk wc hd hW hM hp ha hmk hs hB e3
    have hok : okM S mk := by rcases hmk with h | h <;> rw [h] <;> assumption
    have stay : (M.testBit a = true ∨ Lim ≤ pop M) → some ((), wc) = some ((), wup wc 7 16 3 (nI (min B (s + mc n L Lim R (owv v0) (prv v0) (nxv v0) (cov v0 (bandN T)) mf (x + 1) a M mk)))) := by
      intro h
      rw [mc_b h, show min B (s + 1000000) = B from by omega, ← same wc B e3]
    rw [show 3 + (x + 1) = 3 + x + 1 from rfl, f_X1_arrive, b_X1_arrive, leti]
    by_cases hv : M.testBit a = true
    · rw [if_neg (by rw [mask_tst hM (by omega), hv]; exact Bool.noConfusion)]
      exact stay (Or.inl hv)
    rw [if_pos (by rw [mask_tst hM (by omega)]; simpa using hv), e7 wc hW.1, bc_spec wc M hM, hp]
    by_cases hl : Lim ≤ d
    · rw [if_pos (by rw [nI_leI (by omega) (by omega)]; exact hl)]
      exact stay (Or.inr (by omega))
    have hnb : ¬ (M.testBit a = true ∨ Lim ≤ pop M) := fun h => by
      rcases h with h | h
      · exact hv h
      · omega
    rw [if_neg (by rw [nI_leI (by omega) (by omega)]; exact hl), if_neg (by rw [lit, nI_leI (by omega) (by omega)]; omega), e3]
    by_cases hsB : s < B
    · obtain ⟨m1, m2, m3, m4⟩ := hmf a mk ha hok
      have hmk' : mf a mk = none ∨ mf a mk = tg := by
        rcases m2 with h | h
        · rw [h]; exact hmk
        · exact Or.inr h
      rw [if_pos (by rw [nI_ltI (by omega) (by omega)]; exact hsB), hW.2.1, m3 wc hW.1, Option.bind_some]
      dsimp only
      by_cases hma : mf a mk = some a
      · rw [if_pos (by rw [hma, cM]), letw, mc_t hnb hma, show min B (s + 0) = s from by omega]
      · have hca : ¬ cM (mf a mk) = nI a := fun h => hma (cM_inj hS m1 (fun q hq => by cases hq; exact ha) (show cM (mf a mk) = cM (some a) from h))
        rw [if_neg hca, cb_spec hS hW ha ha hmk' m1, Option.bind_some]
        dsimp only
        rw [mc_g hnb hma]
        by_cases h0 : cm (dn n L (mf a mk)) R (owv v0) (prv v0) (nxv v0) (cov v0 (bandN T)) a a = 0
        · rw [if_pos (by rw [h0]; rfl), letw, mn_zero h0, show min B (s + 0) = s from by omega]
        · have hcl := mnR_le (f := cf (dn n L (mf a mk)) R (owv v0) (prv v0) (nxv v0) (cov v0 (bandN T)) a a) R
          rw [if_neg (nI_ne_0 (by unfold cm; omega) h0), ← mn_same (S := S) (fun r hr => (rtv hV hb hr).2.2.1) h0]
          generalize hmk2 : mf a mk = mk2 at m1 hmk' h0 hma hca
          have loop : ∀ (m k fu B : Nat) (wc : Wd), S - k = m → k ≤ S → m < fu → Wh S R n L T v0 N0 tg wc → B ≤ 1000000 → wc 7 16 3 = nI B → h_X1_arrive_80 0 (f_X1_arrive (3 + x)) fu wc (nI a) (nI M) (nI s) (cM mk2) (nI k) = some ((), wup wc 7 16 3 (nI (min B (s + mnF (fun u => cm (dn n L mk2) R (owv v0) (prv v0) (nxv v0) (cov v0 (bandN T)) a u + mc n L Lim R (owv v0) (prv v0) (nxv v0) (cov v0 (bandN T)) mf x u (M ||| 2 ^ a) mk2) k m)))) := by
            intro m
            induction m with
            | zero =>
              intro k fu B wc h1 h2 h3 hW hB e3
              obtain ⟨fu, rfl⟩ : ∃ z, fu = z + 1 := ⟨fu - 1, by omega⟩
              rw [h_X1_arrive_80, b_X1_arrive_80, p_X4_switchCount, hW.1, hC.1.1, hV.1.2.2.2.1, if_pos (by rw [nI_leI (by omega) (by omega)]; omega), mnF, show min B (s + 1000000) = B from by omega, ← same wc B e3]
            | succ m ihm =>
              intro k fu B wc h1 h2 h3 hW hB e3
              obtain ⟨fu, rfl⟩ : ∃ z, fu = z + 1 := ⟨fu - 1, by omega⟩
              rw [h_X1_arrive_80, b_X1_arrive_80, p_X4_switchCount, hW.1, hC.1.1, hV.1.2.2.2.1, if_neg (by rw [nI_leI (by omega) (by omega)]; omega), cb_spec hS hW ha (show k < S by omega) hmk' m1, Option.bind_some]
              dsimp only
              rw [nI_1, mnF]
              have hF := mnF_le (f := fun u => cm (dn n L mk2) R (owv v0) (prv v0) (nxv v0) (cov v0 (bandN T)) a u + mc n L Lim R (owv v0) (prv v0) (nxv v0) (cov v0 (bandN T)) mf x u (M ||| 2 ^ a) mk2) m (k + 1)
              have hck := mnR_le (f := cf (dn n L mk2) R (owv v0) (prv v0) (nxv v0) (cov v0 (bandN T)) a k) R
              by_cases hi : cm (dn n L mk2) R (owv v0) (prv v0) (nxv v0) (cov v0 (bandN T)) a k < 1000000
              · obtain ⟨r, r1, r2, r3, r4⟩ := cm_a hi
                have hr := cv_le hV hb r1
                rw [if_neg (by rw [show (1000000 : Int32) = nI 1000000 from rfl, nI_eq (by omega) (by omega)]; omega), or_nI M hM a (by omega), nI_add, ih (d + 1) k (M ||| 2 ^ a) _ B mk2 wc (by omega) hW (or_lt M hM a (by omega)) (by rw [pop_or M hM a (by omega) (by simpa using hv), hp]) (by omega) hmk' (by omega) hB e3, Option.bind_some]
                dsimp only
                rw [ihm (k + 1) fu (min B (s + cm (dn n L mk2) R (owv v0) (prv v0) (nxv v0) (cov v0 (bandN T)) a k + mc n L Lim R (owv v0) (prv v0) (nxv v0) (cov v0 (bandN T)) mf x k (M ||| 2 ^ a) mk2)) _ (by omega) (by omega) (by omega) hW.put (by omega) (by rw [wup_at, if_pos ⟨rfl, rfl, rfl⟩]), wup_wup]
                congr 4
                omega
              · rw [if_pos (by rw [show cm (dn n L mk2) R (owv v0) (prv v0) (nxv v0) (cov v0 (bandN T)) a k = 1000000 from by unfold cm at hi ⊢; omega]; rfl), ihm (k + 1) fu B wc (by omega) (by omega) (by omega) hW hB e3]
                congr 4
                omega
          exact loop S 0 FU B wc rfl (by omega) (by rw [FU_eq]; omega) hW hB e3
    · rw [if_neg (by rw [nI_ltI (by omega) (by omega)]; exact hsB), show min B (s + mc n L Lim R (owv v0) (prv v0) (nxv v0) (cov v0 (bandN T)) mf (x + 1) a M mk) = B from by omega, ← same wc B e3]
def bC (B : Nat) : Int32 := if B = 1000000 then -9 else nI B
theorem search_spec {t S R P T n L Lim a : Nat} {v0 : Nat → Int32} {N0 : Nat → Nat → Int32} {tg : Option Nat} {mf : Nat → Option Nat → Option Nat} {w : Wd} (J : Kc t S R P T n L Lim v0 N0 tg mf) (h0 : w 0 = N0) (ha : a < S) : ∃ w', f_X1_search 0 w (nI a) (nI n) = some (bC (min 1000000 (mc n L Lim R (owv v0) (prv v0) (nxv v0) (cov v0 (bandN T)) mf 7 a 0 none)), w') ∧ (∀ g c, g ≠ 7 → w' g c = w g c) ∧ ∀ c, c < 16 → w' 7 c = w 7 c := by
  obtain ⟨hV, hC, hT, hLim, hn, htg, hsw, hmf⟩ := id J
  have hnone : okM S none := fun q h => by cases h
  generalize hw2 : wup (wup w 7 16 2 (nI n)) 7 16 3 (nI 1000000) = w2
  have z0 : w2 0 = N0 := by rw [← h0, ← hw2]; funext c; rw [wup_row, if_neg (by omega), wup_row, if_neg (by omega)]
  have z2 : w2 7 16 2 = nI n := by rw [← hw2, wup_at, if_neg (by omega), wup_at, if_pos ⟨rfl, rfl, rfl⟩]
  have z3 : w2 7 16 3 = nI 1000000 := by rw [← hw2, wup_at, if_pos ⟨rfl, rfl, rfl⟩]
  have f2 : ∀ g c, ¬ (g = 7 ∧ c = 16) → w2 g c = w g c := fun g c h => by rw [← hw2, wup_row, if_neg h, wup_row, if_neg h]
  obtain ⟨row, r1, r2⟩ := fill_spec (c3 := 17) (w := w2) (mk := none) (by omega) hV (by rw [z0]; exact hC) hT hn hnone z2
  have y0 : wr w2 7 17 row 0 = N0 := by rw [← z0]; funext c; rw [wr_at, if_neg (by omega)]
  have fin : ∀ w3 : Wd, Wh S R n L T v0 N0 tg w3 → w3 7 16 3 = nI 1000000 → (∀ g c, ¬ (g = 7 ∧ 16 ≤ c) → w3 g c = w g c) → ∃ w', j_X1_search_50 0 w3 (nI a) = some (bC (min 1000000 (mc n L Lim R (owv v0) (prv v0) (nxv v0) (cov v0 (bandN T)) mf 7 a 0 none)), w') ∧ (∀ g c, g ≠ 7 → w' g c = w g c) ∧ ∀ c, c < 16 → w' 7 c = w 7 c := by
    intro w3 hW e3 hf
    have h := cheap_c J 7 0 a 0 0 1000000 none w3 rfl hW (by omega) (by decide) ha (Or.inl rfl) (by omega) (by omega) e3
    rw [Nat.zero_add] at h
    refine ⟨wup w3 7 16 3 (nI (min 1000000 (mc n L Lim R (owv v0) (prv v0) (nxv v0) (cov v0 (bandN T)) mf 7 a 0 none))), ?_, ?_, ?_⟩
    · rw [j_X1_search_50, show f_X1_arrive 10 0 w3 (nI a) 0 (-9) 0 = f_X1_arrive (3 + 7) 0 w3 (nI a) (nI 0) (cM none) (nI 0) from rfl, h, Option.bind_some]
      dsimp only
      generalize mc n L Lim R (owv v0) (prv v0) (nxv v0) (cov v0 (bandN T)) mf 7 a 0 none = z
      by_cases hz : min 1000000 z = 1000000
      · rw [if_pos (by rw [wup_at, if_pos ⟨rfl, rfl, rfl⟩, hz]; rfl), bC, if_pos hz]
      · rw [if_neg (by rw [wup_at, if_pos ⟨rfl, rfl, rfl⟩, show (1000000 : Int32) = nI 1000000 from rfl, nI_eq (by omega) (by omega)]; exact hz), wup_at, if_pos ⟨rfl, rfl, rfl⟩, bC, if_neg hz]
    · intro g c hg
      rw [wup_row, if_neg (by omega)]; exact hf g c (by omega)
    · intro c hc
      rw [wup_row, if_neg (by omega)]; exact hf 7 c (by omega)
  have hs : f_X1_search 0 w (nI a) (nI n) = if cM tg = -9 then j_X1_search_50 0 (wr w2 7 17 row) (nI a) else (f_X1_fill 0 18 (wr w2 7 17 row) (cM tg)).bind fun q6 => j_X1_search_50 0 q6.2 (nI a) := by
    rw [f_X1_search, letw, letw, show (1000000 : Int32) = nI 1000000 from rfl, hw2, show f_X1_fill 0 17 w2 (-9) = f_X1_fill 0 17 w2 (cM none) from rfl, r1, Option.bind_some]
    dsimp only
    rw [hsw _ y0, Option.bind_some]
  rw [hs]
  cases htt : tg with
  | none =>
    rw [cM, if_pos rfl]
    refine fin _ ⟨y0, ?_, fun a u ha hu => ?_, fun q hq => ?_⟩ ?_ (fun g c hg => ?_)
    · rw [wr_at, if_neg (by omega)]; exact z2
    · rw [wr_at, if_pos ⟨rfl, rfl⟩]; exact r2 a u ha (by have := hV.1.1; omega)
    · rw [htt] at hq; cases hq
    · rw [wr_at, if_neg (by omega)]; exact z3
    · rw [wr_at, if_neg (by omega)]; exact f2 g c (by omega)
  | some q =>
    have hq := htg q htt
    have hS := hV.1.1
    obtain ⟨row2, s1, s2⟩ := fill_spec (c3 := 18) (w := wr w2 7 17 row) (mk := some q) (by omega) hV (by rw [y0]; exact hC) hT hn (by rw [← htt]; exact htg) (by rw [wr_at, if_neg (by omega)]; exact z2)
    rw [cM, if_neg (nI_ne_m9 (by omega)), show nI q = cM (some q) from rfl, s1, Option.bind_some]
    dsimp only
    refine fin _ ⟨?_, ?_, fun a u ha hu => ?_, fun q' hq' a u ha hu => ?_⟩ ?_ (fun g c hg => ?_)
    · rw [← y0]; funext c; rw [wr_at, if_neg (by omega)]
    · rw [wr_at, if_neg (by omega), wr_at, if_neg (by omega)]; exact z2
    · rw [wr_at, if_neg (by omega), wr_at, if_pos ⟨rfl, rfl⟩]; exact r2 a u ha (by omega)
    · rw [htt] at hq'; cases hq'
      rw [wr_at, if_pos ⟨rfl, rfl⟩]; exact s2 a u ha (by omega)
    · rw [wr_at, if_neg (by omega), wr_at, if_neg (by omega)]; exact z3
    · rw [wr_at, if_neg (by omega), wr_at, if_neg (by omega)]; exact f2 g c (by omega)
