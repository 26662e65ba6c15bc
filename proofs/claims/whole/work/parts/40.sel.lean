theorem ln_ex (p : Nat) : ∃ L, p ≤ 999999999 → L ≤ 9 ∧ IsLen p L := by
  by_cases h : p ≤ 999999999
  · obtain ⟨L, h1, h2⟩ := IsLen.ex 9 p (by omega)
    exact ⟨L, fun _ => ⟨h1, h2⟩⟩
  · exact ⟨0, fun q => absurd q h⟩
noncomputable def ln (p : Nat) : Nat := (ln_ex p).choose
theorem ln_spec {p : Nat} (h : p ≤ 999999999) : ln p ≤ 9 ∧ IsLen p (ln p) := (ln_ex p).choose_spec h
theorem pf_ln {D m p q : Nat} (hD : IsLen D m) (hm : m ≤ 13) (hp : pf D p = true) (hq : pf D q = true) (hp9 : p ≤ 999999999) (hq9 : q ≤ 999999999) : ln p ≤ ln q ↔ p ≤ q := by
  obtain ⟨a1, a2⟩ := ln_spec hp9
  obtain ⟨b1, b2⟩ := ln_spec hq9
  constructor
  · intro h
    by_cases he : ln p = ln q
    · have c1 := ((pf_iff hD hm a2).mp hp).2
      have c2 := ((pf_iff hD hm b2).mp hq).2
      rw [← he] at c2
      omega
    · rcases b2.2 with h0 | h0
      · omega
      · have := a2.1
        have := pw_mono (show ln p ≤ ln q - 1 by omega)
        omega
  · intro h
    exact IsLen.mono h a2 b2
/-- the routes that count at a switch: the longest prefix among those with ft -/
def mx (ft : Nat → Bool) (pr : Nat → Nat) : Nat → Option Nat
  | 0 => none
  | k + 1 => if ft k = true then (match mx ft pr k with | none => some (pr k) | some p => some (if pr k ≤ p then p else pr k)) else mx ft pr k
theorem mx_spec {ft : Nat → Bool} {pr : Nat → Nat} : ∀ k, (∀ p, mx ft pr k = some p → (∃ r, r < k ∧ ft r = true ∧ pr r = p) ∧ ∀ r, r < k → ft r = true → pr r ≤ p) ∧ (mx ft pr k = none → ∀ r, r < k → ft r = false)
  | 0 => ⟨fun p h => by simp [mx] at h, fun _ r h => by omega⟩
  | k + 1 => by
    obtain ⟨i1, i2⟩ := mx_spec (ft := ft) (pr := pr) k
    rw [mx]
    by_cases hf : ft k = true
    · rw [if_pos hf]
      cases hm : mx ft pr k with
      | none =>
        refine ⟨fun p hp => ?_, fun h => by simp at h⟩
        simp only [Option.some.injEq] at hp
        subst hp
        refine ⟨⟨k, by omega, hf, rfl⟩, fun r hr hfr => ?_⟩
        by_cases hrk : r = k
        · rw [hrk]; exact Nat.le_refl _
        · have := i2 hm r (by omega)
          rw [this] at hfr; cases hfr
      | some q =>
        refine ⟨fun p hp => ?_, fun h => by simp at h⟩
        obtain ⟨⟨r0, j1, j2, j3⟩, j4⟩ := i1 q hm
        simp only [Option.some.injEq] at hp
        by_cases hle : pr k ≤ q
        · rw [if_pos hle] at hp
          subst hp
          refine ⟨⟨r0, by omega, j2, j3⟩, fun r hr hfr => ?_⟩
          by_cases hrk : r = k
          · rw [hrk]; exact hle
          · exact j4 r (by omega) hfr
        · rw [if_neg hle] at hp
          subst hp
          refine ⟨⟨k, by omega, hf, rfl⟩, fun r hr hfr => ?_⟩
          by_cases hrk : r = k
          · rw [hrk]; exact Nat.le_refl _
          · have := j4 r (by omega) hfr
            omega
    · rw [if_neg hf]
      have hf' : ft k = false := by simpa using hf
      refine ⟨fun p hp => ?_, fun h r hr => ?_⟩
      · obtain ⟨⟨r0, j1, j2, j3⟩, j4⟩ := i1 p hp
        refine ⟨⟨r0, by omega, j2, j3⟩, fun r hr hfr => ?_⟩
        by_cases hrk : r = k
        · rw [hrk] at hfr; exact absurd hfr hf
        · exact j4 r (by omega) hfr
      · by_cases hrk : r = k
        · rw [hrk]; exact hf'
        · exact i2 h r (by omega)
def cP : Option Nat → Int32
  | none => -9
  | some p => nI p
noncomputable def mP : Option Nat → Int32
  | none => -1
  | some p => nI (ln p)
/-- what the model's row says of routes, and what a network does -/
def Ct (w : Wd) (R b T : Nat) (ow pr co : Nat → Nat) : Prop := R ≤ 40 ∧ b = bandN T ∧ T ≤ 1000000 ∧ w 8 1 1 = nI R ∧ w 8 1 4 = nI T ∧ ∀ r, r < R → ow r < 8 ∧ pr r ≤ 999999999 ∧ co r ≤ 1000 ∧ w 8 1 (30 + 8 * r) = nI (ow r) ∧ w 8 1 (30 + 8 * r + 1) = nI (pr r) ∧ w 8 1 (30 + 8 * r + (3 + b)) = nI (co r)
def Cc (w : Wd) (R b : Nat) (ow pr co : Nat → Nat) : Prop := R ≤ 40 ∧ b < 3 ∧ w 0 3 6 = nI R ∧ ∀ r, r < R → ow r < 8 ∧ pr r ≤ 999999999 ∧ co r ≤ 1000 ∧ w 0 4 r = nI (ow r) ∧ w 0 5 r = nI (pr r) ∧ w 0 7 (3 * r + b) = nI (co r)
def ft (D a : Nat) (ow pr : Nat → Nat) (r : Nat) : Bool := decide (ow r = a) && pf D (pr r)
theorem ft_T {D a r : Nat} {ow pr : Nat → Nat} : ft D a ow pr r = true ↔ ow r = a ∧ pf D (pr r) = true := by
  rw [ft, Bool.and_eq_true, decide_eq_true_iff]
theorem longest_loop {w : Wd} {R b D a : Nat} {ow pr co : Nat → Nat} (hC : Cc w R b ow pr co) (hD : D < 10 ^ 13) (ha : a < 8) : ∀ (d k fu : Nat), R - k = d → k ≤ R → d < fu → h_X6_longestPrefix_7 0 fu w (nI a) (lI D) (cP (mx (ft D a ow pr) pr k)) (nI k) = some (cP (mx (ft D a ow pr) pr R), w) := by
  obtain ⟨hR, hb, eR, hr⟩ := hC
  intro d
  induction d with
  | zero =>
    intro k fu h1 h2 h3
    obtain ⟨fu, rfl⟩ : ∃ z, fu = z + 1 := ⟨fu - 1, by omega⟩
    have hk : k = R := by omega
    subst hk
    rw [h_X6_longestPrefix_7, b_X6_longestPrefix_7, if_pos (by rw [eR, nI_leI (by omega) (by omega)]; omega)]
  | succ d ih =>
    intro k fu h1 h2 h3
    obtain ⟨fu, rfl⟩ : ∃ z, fu = z + 1 := ⟨fu - 1, by omega⟩
    obtain ⟨q1, q2, q3, q4, q5, q6⟩ := hr k (by omega)
    have hn := ih (k + 1) fu (by omega) (by omega) (by omega)
    rw [mx] at hn
    rw [h_X6_longestPrefix_7, b_X6_longestPrefix_7, if_neg (by rw [eR, nI_leI (by omega) (by omega)]; omega), if_neg (by rw [lit, nI_leI (by omega) (by omega)]; omega), if_pos (ibT (by omega) (by omega)), leti, if_pos (ibT (by omega) (by omega)), nI_clamp (by omega), nI_1]
    by_cases how : ow k = a
    · rw [if_pos (by rw [q4, how]), q5]
      by_cases hpf : pf D (pr k) = true
      · rw [if_pos (ft_T.mpr ⟨how, hpf⟩)] at hn
        cases hm : mx (ft D a ow pr) pr k with
        | none =>
          rw [hm] at hn
          rw [cP, if_neg (by rw [show (-9 : Int32) = - nI 9 from rfl, ng_nle (by omega) (by omega) (by omega)]; exact id), bw_spec hD (by omega), Option.bind_some]
          dsimp only
          rw [if_pos hpf, if_neg (by decide)]
          exact hn
        | some p =>
          rw [hm] at hn
          have hp9 : p ≤ 999999999 := by
            obtain ⟨⟨r, j1, j2, j3⟩, -⟩ := (mx_spec k).1 p hm
            have := (hr r (by omega)).2.1
            omega
          rw [cP]
          by_cases hle : pr k ≤ p
          · simp only [if_pos hle] at hn
            rw [if_pos (by rw [nI_leI (by omega) (by omega)]; exact hle)]
            exact hn
          · simp only [if_neg hle] at hn
            rw [if_neg (by rw [nI_leI (by omega) (by omega)]; exact hle), bw_spec hD (by omega), Option.bind_some]
            dsimp only
            rw [if_pos hpf, if_neg (by decide)]
            exact hn
      · rw [if_neg (fun h => hpf (ft_T.mp h).2)] at hn
        split
        · exact hn
        · rw [bw_spec hD (by omega), Option.bind_some]
          dsimp only
          rw [if_neg hpf, if_pos (by decide)]
          exact hn
    · rw [if_neg (fun h => how (ft_T.mp h).1)] at hn
      rw [if_neg (by rw [q4, nI_eq (by omega) (by omega)]; exact how)]
      exact hn
theorem longest_spec {w : Wd} {R b D a : Nat} {ow pr co : Nat → Nat} (hC : Cc w R b ow pr co) (hD : D < 10 ^ 13) (ha : a < 8) : f_X6_longestPrefix 0 w (nI a) (lI D) = some (cP (mx (ft D a ow pr) pr R), w) := by
  rw [f_X6_longestPrefix]
  exact longest_loop hC hD ha R 0 FU rfl (by omega) (by rw [FU_eq]; have := hC.1; omega)
/-- the model's first loop: the longest prefix's length -/
theorem gath5_loop {w : Wd} {R b T D m a : Nat} {ow pr co : Nat → Nat} (hC : Ct w R b T ow pr co) (hD : Dg w m D) (ha : a < 8) (y2 : Int32) : ∀ (d k fu : Nat), R - k = d → k ≤ R → d < fu → h_X10_gathers_5 fu w (nI a) y2 (mP (mx (ft D a ow pr) pr k)) (nI k) = h_X10_gathers_90 FU w (nI a) y2 (mP (mx (ft D a ow pr) pr R)) (nI b) 0 0 := by
  obtain ⟨hR, hb, hT, eR, eT, hr⟩ := hC
  have hb3 := bandN_lt T
  intro d
  induction d with
  | zero =>
    intro k fu h1 h2 h3
    obtain ⟨fu, rfl⟩ : ∃ z, fu = z + 1 := ⟨fu - 1, by omega⟩
    have hk : k = R := by omega
    subst hk
    rw [h_X10_gathers_5, b_X10_gathers_5, if_pos (show ib 1 640 = true from rfl), show Int32.toNatClampNeg 1 = 1 from rfl, if_pos (by rw [eR, nI_leI (by omega) (by omega)]; omega), if_pos (show ib 4 640 = true from rfl), show Int32.toNatClampNeg 4 = 4 from rfl, eT, bandOf_m (by omega), leti, hb]
  | succ d ih =>
    intro k fu h1 h2 h3
    obtain ⟨fu, rfl⟩ : ∃ z, fu = z + 1 := ⟨fu - 1, by omega⟩
    obtain ⟨q1, q2, q3, q4, q5, q6⟩ := hr k (by omega)
    obtain ⟨l1, l2⟩ := ln_spec q2
    have hn := ih (k + 1) fu (by omega) (by omega) (by omega)
    rw [mx] at hn
    have of1 := of_spec (w := w) (r := k) (k := 1) (by omega) (by omega)
    have of0 := of_spec (w := w) (r := k) (k := 0) (by omega) (by omega)
    rw [Nat.add_zero, q4] at of0
    rw [q5] at of1
    rw [h_X10_gathers_5, b_X10_gathers_5, if_pos (show ib 1 640 = true from rfl), show Int32.toNatClampNeg 1 = 1 from rfl, if_neg (by rw [eR, nI_leI (by omega) (by omega)]; omega), show f_X10_of w (nI k) 1 = f_X10_of w (nI k) (nI 1) from rfl, of1, Option.bind_some]
    dsimp only
    rw [lengthOf_spec l2 (by omega) (by omega), Option.bind_some]
    dsimp only
    rw [show f_X10_of w (nI k) 0 = f_X10_of w (nI k) (nI 0) from rfl, of0, Option.bind_some]
    dsimp only
    rw [show (nI k + 1 : Int32) = nI (k + 1) from nI_add k 1]
    by_cases how : ow k = a
    · rw [if_pos (by rw [how]), show f_X10_of w (nI k) 1 = f_X10_of w (nI k) (nI 1) from rfl, of1, Option.bind_some]
      dsimp only
      rw [begins_spec hD (by omega), Option.bind_some]
      dsimp only
      by_cases hpf : pf D (pr k) = true
      · rw [if_pos (ft_T.mpr ⟨how, hpf⟩)] at hn
        rw [if_pos hpf, if_neg (by decide)]
        cases hm : mx (ft D a ow pr) pr k with
        | none =>
          rw [hm] at hn
          rw [mP, if_neg (by rw [show (-1 : Int32) = - nI 1 from rfl, ng_nle (by omega) (by omega) (by omega)]; exact id)]
          exact hn
        | some p =>
          rw [hm] at hn
          obtain ⟨⟨r0, j1, j2, j3⟩, -⟩ := (mx_spec k).1 p hm
          have hp9 : p ≤ 999999999 := by
            have := (hr r0 (by omega)).2.1
            omega
          have hpp : pf D p = true := by rw [← j3]; exact (ft_T.mp j2).2
          have hiff := pf_ln hD.2.2.1 hD.2.1 hpf hpp (by omega) hp9
          have := (ln_spec hp9).1
          rw [mP]
          by_cases hle : pr k ≤ p
          · simp only [if_pos hle] at hn
            rw [if_pos (by rw [nI_leI (by omega) (by omega)]; exact hiff.mpr hle)]
            exact hn
          · simp only [if_neg hle] at hn
            rw [if_neg (by rw [nI_leI (by omega) (by omega)]; exact fun h => hle (hiff.mp h))]
            exact hn
      · rw [if_neg (fun h => hpf (ft_T.mp h).2)] at hn
        rw [if_neg hpf, if_pos (by decide)]
        exact hn
    · rw [if_neg (fun h => how (ft_T.mp h).1)] at hn
      rw [if_neg (by rw [nI_eq (by omega) (by omega)]; exact how)]
      exact hn
/-! the order of the routes -/
def lt2 (co : Nat → Nat) (r s : Nat) : Prop := co r < co s ∨ (co r = co s ∧ r < s)
def Srt (mb : Nat → Bool) (co ls : Nat → Nat) (K k : Nat) : Prop := K ≤ k ∧ (∀ i, i < K → ls i < k ∧ mb (ls i) = true) ∧ (∀ r, r < k → mb r = true → ∃ i, i < K ∧ ls i = r) ∧ ∀ i j, i < j → j < K → lt2 co (ls i) (ls j)
/-- a route more, put in at place y -/
def insL (ls : Nat → Nat) (y r : Nat) (i : Nat) : Nat := if i < y then ls i else if i = y then r else ls (i - 1)
theorem insL_lt {ls : Nat → Nat} {y r i : Nat} (h : i < y) : insL ls y r i = ls i := if_pos h
theorem insL_eq {ls : Nat → Nat} {y r : Nat} : insL ls y r y = r := by rw [insL, if_neg (by omega), if_pos rfl]
theorem insL_gt {ls : Nat → Nat} {y r i : Nat} (h : y < i) : insL ls y r i = ls (i - 1) := by rw [insL, if_neg (by omega), if_neg (by omega)]
theorem srt_skip {mb : Nat → Bool} {co ls : Nat → Nat} {K k : Nat} (h : Srt mb co ls K k) (hk : mb k = false) : Srt mb co ls K (k + 1) := by
  obtain ⟨h1, h2, h3, h4⟩ := h
  refine ⟨by omega, fun i hi => ⟨by have := (h2 i hi).1; omega, (h2 i hi).2⟩, fun r hr hm => ?_, h4⟩
  by_cases hrk : r = k
  · rw [hrk, hk] at hm; cases hm
  · exact h3 r (by omega) hm
theorem srt_ins {mb : Nat → Bool} {co ls : Nat → Nat} {K k y : Nat} (h : Srt mb co ls K k) (hk : mb k = true) (hy : y ≤ K) (hlo : ∀ i, i < y → co (ls i) ≤ co k) (hhi : ∀ j, y ≤ j → j < K → co k < co (ls j)) : Srt mb co (insL ls y k) (K + 1) (k + 1) := by
  obtain ⟨h1, h2, h3, h4⟩ := h
  refine ⟨by omega, fun i hi => ?_, fun r hr hm => ?_, fun i j hij hj => ?_⟩
  · rcases (show i < y ∨ i = y ∨ y < i by omega) with c | c | c
    · rw [insL_lt c]
      have := h2 i (by omega)
      exact ⟨by omega, this.2⟩
    · rw [c, insL_eq]; exact ⟨by omega, hk⟩
    · rw [insL_gt c]
      have := h2 (i - 1) (by omega)
      exact ⟨by omega, this.2⟩
  · by_cases hrk : r = k
    · exact ⟨y, by omega, by rw [insL_eq, hrk]⟩
    · obtain ⟨i, hi, e⟩ := h3 r (by omega) hm
      by_cases hiy : i < y
      · exact ⟨i, by omega, by rw [insL_lt hiy, e]⟩
      · exact ⟨i + 1, by omega, by rw [insL_gt (by omega), Nat.add_sub_cancel, e]⟩
  · rcases (show i < y ∨ i = y ∨ y < i by omega) with c | c | c
    · rw [insL_lt c]
      rcases (show j < y ∨ j = y ∨ y < j by omega) with d | d | d
      · rw [insL_lt d]; exact h4 i j hij (by omega)
      · rw [d, insL_eq]
        have e1 := hlo i c
        have e2 := (h2 i (by omega)).1
        by_cases he : co (ls i) = co k
        · exact Or.inr ⟨he, e2⟩
        · exact Or.inl (by omega)
      · rw [insL_gt d]
        exact h4 i (j - 1) (by omega) (by omega)
    · rw [c, insL_eq, insL_gt (by omega)]
      exact Or.inl (hhi (j - 1) (by omega) (by omega))
    · rw [insL_gt c, insL_gt (by omega)]
      exact h4 (i - 1) (j - 1) (by omega) (by omega)
