theorem dg_app {w w' : Wd} {a D x L : Nat} (hD : Dg w a D) (hx : x < 10 ^ L) (hl : a = 0 → IsLen x L) (hm : a + L ≤ 13) (e5 : w' 8 0 5 = nI (a + L)) (h1 : ∀ j, j < a → w' 8 4 j = w 8 4 j) (h2 : ∀ j, j < L → w' 8 4 (a + j) = nI (x / 10 ^ (L - 1 - j) % 10)) : Dg w' (a + L) (D * 10 ^ L + x) := by
  obtain ⟨-, -, hL, hd⟩ := hD
  have hp : 0 < 10 ^ L := Nat.pow_pos (by omega)
  have hq : (D * 10 ^ L + x) / 10 ^ L = D := by
    rw [Nat.add_comm, Nat.add_mul_div_right _ _ hp, Nat.div_eq_of_lt hx, Nat.zero_add]
  refine ⟨e5, hm, ?_, ?_⟩
  · by_cases ha : a = 0
    · subst ha
      have hD0 : D = 0 := by have := hL.1; omega
      subst hD0
      rw [Nat.zero_mul, Nat.zero_add, Nat.zero_add]
      exact hl rfl
    · have h3 : 10 ^ (a - 1) ≤ D := by rcases hL.2 with h | h <;> omega
      refine ⟨?_, Or.inr ?_⟩
      · have := hL.1
        rw [Nat.pow_add]
        calc D * 10 ^ L + x < D * 10 ^ L + 10 ^ L := by omega
          _ = (D + 1) * 10 ^ L := by rw [Nat.add_mul, Nat.one_mul]
          _ ≤ 10 ^ a * 10 ^ L := Nat.mul_le_mul_right _ (by omega)
      · rw [show a + L - 1 = a - 1 + L from by omega, Nat.pow_add]
        exact Nat.le_trans (Nat.mul_le_mul_right _ h3) (Nat.le_add_right _ _)
  · intro i hi
    by_cases hia : i < a
    · rw [h1 i hia, hd i hia, show a + L - 1 - i = L + (a - 1 - i) from by omega, Nat.pow_add, ← Nat.div_div_eq_div_mul, hq]
    · obtain ⟨j, rfl⟩ : ∃ j, i = a + j := ⟨i - a, by omega⟩
      rw [h2 j (by omega), show a + L - 1 - (a + j) = L - 1 - j from by omega]
      congr 1
      have he : 10 ^ L = 10 ^ j * 10 * 10 ^ (L - 1 - j) := by
        rw [← Nat.pow_succ, ← Nat.pow_add]; congr 1; omega
      have hpe : 0 < 10 ^ (L - 1 - j) := Nat.pow_pos (by omega)
      rw [he, ← Nat.mul_assoc, Nat.add_comm (D * (10 ^ j * 10) * _), Nat.add_mul_div_right _ _ hpe, ← Nat.mul_assoc, Nat.add_mul_mod_self_right]
theorem spells_loop {a L : Nat} (ha : a + L ≤ 13) : ∀ (k q fu : Nat) (w : Wd), k ≤ L → q < 2 ^ 31 → k < fu → w 8 0 5 = nI a → h_X10_spells_12 fu w (nI L) (nI q) (nI k - nI 1) = some ((), wup (wr w 8 4 (fun j => if a ≤ j ∧ j < a + k then nI (q / 10 ^ (k - 1 - (j - a)) % 10) else w 8 4 j)) 8 0 5 (nI (a + L))) := by
  intro k
  induction k with
  | zero =>
    intro q fu w h1 h2 h3 e5
    obtain ⟨fu, rfl⟩ : ∃ z, fu = z + 1 := ⟨fu - 1, by omega⟩
    rw [h_X10_spells_12, b_X10_spells_12, if_pos (by decide), letw, e5, nI_add]
    congr 2
    apply wd_ext
    intro g c j
    rw [wup_at, wup_at, wr_at]
    by_cases hg : g = 8 ∧ c = 0 ∧ j = 5
    · rw [if_pos hg, if_pos hg]
    · rw [if_neg hg, if_neg hg]
      by_cases h4 : g = 8 ∧ c = 4
      · rw [if_pos h4, if_neg (by omega), h4.1, h4.2]
      · rw [if_neg h4]
  | succ k ih =>
    intro q fu w h1 h2 h3 e5
    obtain ⟨fu, rfl⟩ : ∃ z, fu = z + 1 := ⟨fu - 1, by omega⟩
    have hm : q % 10 < 10 := Nat.mod_lt _ (by omega)
    rw [nI_sub (by omega), Nat.add_sub_cancel, h_X10_spells_12, b_X10_spells_12, if_neg (nI_pos (by omega)), e5, nI_add, if_pos (ibT (by omega) (by omega)), nI_clamp (by omega), show (10 : Int32) = nI 10 from rfl, nI_rem (by omega) (by omega) (by omega), nI_div (by omega) (by omega) (by omega), letw, leti, show (nI k + -1 : Int32) = nI k - nI 1 from (Int32.sub_eq_add_neg ..).symm, ih (q / 10) fu _ (by omega) (by omega) (by omega) (by rw [wup_at, if_neg (by omega)]; exact e5), wr_wup]
    congr 4
    funext j
    rw [wup_row, if_pos (c := 8 = 8 ∧ 4 = 4) ⟨rfl, rfl⟩, upd_at]
    by_cases hj : a ≤ j ∧ j < a + k
    · rw [if_pos hj, if_pos (by omega), Nat.div_div_eq_div_mul]
      congr 3
      rw [Nat.mul_comm, ← Nat.pow_succ]
      congr 1
      omega
    · rw [if_neg hj]
      by_cases he : j = a + k
      · subst he
        rw [if_pos rfl, if_pos (by omega), show k - (a + k - a) = 0 from by omega, Nat.pow_zero, Nat.div_one]
      · rw [if_neg he, if_neg (by omega)]
def Mk0 (w w' : Wd) : Prop := (∀ g c, ¬ (g = 8 ∧ (c = 4 ∨ c = 0)) → w' g c = w g c) ∧ ∀ i, i ≠ 5 → w' 8 0 i = w 8 0 i
theorem Mk0.trans {w w' w'' : Wd} (h1 : Mk0 w w') (h2 : Mk0 w' w'') : Mk0 w w'' := ⟨fun g c h => (h2.1 g c h).trans (h1.1 g c h), fun i h => (h2.2 i h).trans (h1.2 i h)⟩
theorem spells_spec {w : Wd} {a D x L : Nat} (hD : Dg w a D) (hx : IsLen x L) (hx2 : x < 2 ^ 31) (hm : a + L ≤ 13) : ∃ w', f_X10_spells w (nI x) = some ((), w') ∧ Dg w' (a + L) (D * 10 ^ L + x) ∧ Mk0 w w' := by
  refine ⟨wup (wr w 8 4 (fun j => if a ≤ j ∧ j < a + L then nI (x / 10 ^ (L - 1 - (j - a)) % 10) else w 8 4 j)) 8 0 5 (nI (a + L)), ?_, ?_, ?_, ?_⟩
  · rw [f_X10_spells, lengthOf_spec hx hx2 (by omega), Option.bind_some]
    dsimp only
    rw [leti, show (1 : Int32) = nI 1 from rfl, spells_loop hm L x FU w (Nat.le_refl _) hx2 (by rw [FU_eq]; omega) hD.1]
  · refine dg_app hD hx.1 (fun _ => hx) hm ?_ ?_ ?_
    · rw [wup_at, if_pos ⟨rfl, rfl, rfl⟩]
    · intro j hj
      rw [wup_at, if_neg (by omega), wr_at, if_pos ⟨rfl, rfl⟩, if_neg (by omega)]
    · intro j hj
      rw [wup_at, if_neg (by omega), wr_at, if_pos ⟨rfl, rfl⟩, if_pos (by omega), show a + j - a = j from by omega]
  · intro g c h
    rw [wup_row, if_neg (by omega), wr_at, if_neg (by omega)]
  · intro i h
    rw [wup_at, if_neg (by omega), wr_at, if_neg (by omega)]
/-! marks: none, or a switch -/
def cM : Option Nat → Int32
  | none => -9
  | some q => nI q
def mM : Option Nat → Int32
  | none => -1
  | some q => nI q
def dn (n L : Nat) : Option Nat → Nat
  | none => n
  | some q => (9900 + q) * 10 ^ L + n
def okM (S : Nat) (mk : Option Nat) : Prop := ∀ q, mk = some q → q < S
theorem dn_lt {n L S : Nat} {mk : Option Nat} (hn : IsLen n L) (hL : L ≤ 9) (hS : S ≤ 8) (hk : okM S mk) : dn n L mk < 10 ^ 13 := by
  have h9 : 10 ^ L ≤ 10 ^ 9 := pw_mono hL
  have := hn.1
  cases mk with
  | none => simp only [dn]; omega
  | some q =>
    have := hk q rfl
    simp only [dn]
    calc (9900 + q) * 10 ^ L + n < (9900 + q) * 10 ^ L + 10 ^ L := by omega
      _ = (9901 + q) * 10 ^ L := by rw [show 9901 + q = (9900 + q) + 1 from by omega, Nat.add_mul (9900 + q) 1, Nat.one_mul]
      _ ≤ 9999 * 10 ^ 9 := Nat.mul_le_mul (by omega) h9
      _ < 10 ^ 13 := by decide
theorem digitsOf_loop {w : Wd} {n L q : Nat} (hn : IsLen n L) (hn2 : n ≤ 999999999) (hL : L ≤ 9) (hq : q < 8) : ∀ (d k fu : Nat), L - k = d → k ≤ L → d < fu → h_X9_digitsOf_14 fu w (nI n) (nI q) (lI (10 ^ k)) (nI k) = some (lI ((9900 + q) * 10 ^ L + n), w) := by
  have e : ((9900 : Int64) + (nI q).toInt64) * lI (10 ^ L) + (nI n).toInt64 = lI ((9900 + q) * 10 ^ L + n) := by
    rw [lI_of (by omega), lI_of (by omega), show (9900 : Int64) = lI 9900 from rfl, lI_add, lI_mul, lI_add]
  intro d
  induction d with
  | zero =>
    intro k fu h1 h2 h3
    obtain ⟨fu, rfl⟩ : ∃ z, fu = z + 1 := ⟨fu - 1, by omega⟩
    have hk : k = L := by omega
    subst hk
    have h9 : 10 ^ k ≤ 10 ^ 9 := pw_mono hL
    rw [h_X9_digitsOf_14, b_X9_digitsOf_14]
    by_cases h : 9 ≤ k
    · rw [if_pos (by rw [lit, nI_leI (by omega) (by omega)]; exact h), e]
    · rw [if_neg (by rw [lit, nI_leI (by omega) (by omega)]; exact h), if_pos (by rw [lI_of (by omega), lg_gt (by omega) (by omega) hn.1]; decide), e]
  | succ d ih =>
    intro k fu h1 h2 h3
    obtain ⟨fu, rfl⟩ : ∃ z, fu = z + 1 := ⟨fu - 1, by omega⟩
    have hle : 10 ^ k ≤ n := by
      rcases hn.2 with h | h
      · omega
      · exact Nat.le_trans (pw_mono (by omega)) h
    rw [h_X9_digitsOf_14, b_X9_digitsOf_14, if_neg (by rw [lit, nI_leI (by omega) (by omega)]; omega), if_neg, letl, show (10 : Int64) = lI 10 from rfl, lI_mul, ← Nat.pow_succ, nI_1]
    · exact ih (k + 1) fu (by omega) (by omega) (by omega)
    · rw [lI_of (by omega)]
      by_cases he : 10 ^ k = n
      · rw [he, lg_eq (by omega)]; decide
      · rw [lg_lt (by omega) (by omega) (by omega)]; decide
theorem digitsOf_spec {w : Wd} {n L S : Nat} {mk : Option Nat} (hn : IsLen n L) (hn2 : n ≤ 999999999) (hL : L ≤ 9) (hS : S ≤ 8) (hk : okM S mk) : f_X9_digitsOf w (nI n) (cM mk) = some (lI (dn n L mk), w) := by
  cases mk with
  | none => rw [f_X9_digitsOf, cM, if_pos rfl, lI_of (by omega), dn]
  | some q =>
    have := hk q rfl
    rw [f_X9_digitsOf, cM, if_neg (by rw [show (-9 : Int32) = - nI 9 from rfl, nI_neg (by omega) (by omega) (by omega)]; exact id), show (1 : Int64) = lI (10 ^ 0) from rfl, show (0 : Int32) = nI 0 from rfl, digitsOf_loop hn hn2 hL (by omega) L 0 FU rfl (by omega) (by rw [FU_eq]; omega), dn]
theorem dials_spec {w : Wd} {n L S : Nat} {mk : Option Nat} (hn : IsLen n L) (hn2 : n ≤ 999999999) (hL : L ≤ 9) (hS : S ≤ 8) (hk : okM S mk) : ∃ m w', f_X10_dials w (nI n) (mM mk) = some ((), w') ∧ Dg w' m (dn n L mk) ∧ Mk0 w w' := by
  have hD0 : Dg (wup w 8 0 5 0) 0 0 := ⟨by rw [wup_at, if_pos ⟨rfl, rfl, rfl⟩]; rfl, by omega, ⟨by omega, Or.inl rfl⟩, fun i hi => by omega⟩
  have hF0 : Mk0 w (wup w 8 0 5 0) := ⟨fun g c h => by rw [wup_row, if_neg (by omega)], fun i h => by rw [wup_at, if_neg (by omega)]⟩
  cases mk with
  | none =>
    obtain ⟨w', h1, h2, h3⟩ := spells_spec hD0 hn (by omega) (by omega)
    refine ⟨L, w', ?_, ?_, hF0.trans h3⟩
    · rw [f_X10_dials, letw, mM, if_pos (by decide), h1, Option.bind_some]
    · rw [Nat.zero_mul, Nat.zero_add, Nat.zero_add] at h2
      exact h2
  | some q =>
    have hq := hk q rfl
    have h990 : IsLen 990 3 := ⟨by decide, Or.inr (by decide)⟩
    obtain ⟨w1, h1, h2, h3⟩ := spells_spec hD0 h990 (by omega) (by omega)
    have e5 : w1 8 0 5 = nI 3 := h2.1
    have hD2 : Dg (wup (wup w1 8 4 3 (nI q)) 8 0 5 (nI 4)) (3 + 1) (990 * 10 ^ 1 + q) := by
      refine dg_app (w := w1) (a := 3) (x := q) (L := 1) h2 (by omega) (fun h => by omega) (by omega) ?_ ?_ ?_
      · rw [wup_at, if_pos ⟨rfl, rfl, rfl⟩]
      · intro j hj
        rw [wup_at, if_neg (by omega), wup_at, if_neg (by omega)]
      · intro j hj
        rw [wup_at, if_neg (by omega), wup_at, if_pos (by omega)]
        congr 1
        have : j = 0 := by omega
        subst this
        rw [Nat.pow_zero, Nat.div_one]
        omega
    have hF2 : Mk0 w1 (wup (wup w1 8 4 3 (nI q)) 8 0 5 (nI 4)) := ⟨fun g c h => by rw [wup_row, if_neg (by omega), wup_row, if_neg (by omega)], fun i h => by rw [wup_at, if_neg (by omega), wup_at, if_neg (by omega)]⟩
    obtain ⟨w', h4, h5, h6⟩ := spells_spec hD2 hn (by omega) (by omega)
    refine ⟨3 + 1 + L, w', ?_, ?_, ((hF0.trans h3).trans hF2).trans h6⟩
    · rw [f_X10_dials, letw, mM, if_neg (nI_pos (by omega)), show (990 : Int32) = nI 990 from rfl, h1, Option.bind_some]
      dsimp only
      rw [if_pos (by rw [e5]; exact ibT (by omega) (by omega)), e5, nI_clamp (by omega), letw, wup_at, if_neg (by omega), e5, letw, show (nI 3 + 1 : Int32) = nI 4 from rfl, h4, Option.bind_some]
    · rw [dn, show 9900 + q = 990 * 10 ^ 1 + q from by omega]
      exact h5
