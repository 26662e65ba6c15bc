/-! long numbers that are small -/
def lI (n : Nat) : Int64 := Int64.ofNat n
theorem lI_toInt {n : Nat} (h : n < 2 ^ 63) : (lI n).toInt = n := Int64.toInt_ofNat_of_lt h
theorem lI_of {n : Nat} (h : n < 2 ^ 31) : (nI n).toInt64 = lI n := by
  rw [← Int64.toInt_inj, Int32.toInt_toInt64, nI_toInt h, lI_toInt (by omega)]
theorem lI_add (a b : Nat) : lI a + lI b = lI (a + b) := (Int64.ofNat_add a b).symm
theorem lI_mul (a b : Nat) : lI a * lI b = lI (a * b) := (Int64.ofNat_mul a b).symm
theorem lI_div {a b : Nat} (ha : a < 2 ^ 63) (hb : b < 2 ^ 63) (h0 : 0 < b) : lI a / lI b = lI (a / b) := by
  have hd : a / b ≤ a := Nat.div_le_self a b
  rw [← Int64.toInt_inj, Int64.toInt_div, lI_toInt ha, lI_toInt hb, lI_toInt (Nat.lt_of_le_of_lt hd ha)]
  rw [show (a : Int).tdiv (b : Int) = ((a / b : Nat) : Int) from by rw [Int.tdiv_eq_ediv_of_nonneg (by omega)]; simp]
  generalize a / b = q at hd
  rw [Int.bmod_eq_of_le] <;> omega
theorem lI_lt {a b : Nat} (ha : a < 2 ^ 63) (hb : b < 2 ^ 63) : (lI a < lI b) = (a < b) := by
  rw [Int64.lt_iff_toInt_lt, lI_toInt ha, lI_toInt hb]
  apply propext
  omega
theorem lI_eq {a b : Nat} (ha : a < 2 ^ 63) (hb : b < 2 ^ 63) : (lI a = lI b) = (a = b) := by
  rw [← Int64.toInt_inj, lI_toInt ha, lI_toInt hb]
  apply propext
  omega
theorem lg_lt {a b : Nat} (ha : a < 2 ^ 63) (hb : b < 2 ^ 63) (h : a < b) : lg_cmp (lI a) (lI b) = -1 := by
  rw [lg_cmp, if_neg (show ¬ lI b < lI a by rw [lI_lt hb ha]; omega), if_neg (by rw [lI_eq ha hb]; omega)]
theorem lg_gt {a b : Nat} (ha : a < 2 ^ 63) (hb : b < 2 ^ 63) (h : b < a) : lg_cmp (lI a) (lI b) = 1 := by
  rw [lg_cmp, if_pos (show lI b < lI a by rw [lI_lt hb ha]; exact h)]
theorem lg_eq {a : Nat} (ha : a < 2 ^ 63) : lg_cmp (lI a) (lI a) = 0 := by
  rw [lg_cmp, if_neg (show ¬ lI a < lI a by rw [lI_lt ha ha]; omega), if_pos rfl]
/-! digits -/
def IsLen (p L : Nat) : Prop := p < 10 ^ L ∧ (L = 0 ∨ 10 ^ (L - 1) ≤ p)
theorem IsLen.ex : ∀ (k p : Nat), p < 10 ^ k → ∃ L, L ≤ k ∧ IsLen p L
  | 0, p, h => ⟨0, Nat.le_refl _, h, Or.inl rfl⟩
  | k + 1, p, h => by
    by_cases h2 : p < 10 ^ k
    · obtain ⟨L, h3, h4⟩ := IsLen.ex k p h2
      exact ⟨L, by omega, h4⟩
    · exact ⟨k + 1, Nat.le_refl _, h, Or.inr (by simpa using h2)⟩
theorem pw_mono {a b : Nat} (h : a ≤ b) : 10 ^ a ≤ 10 ^ b := Nat.pow_le_pow_right (by omega) h
theorem pw_lt {a b : Nat} (h : 10 ^ a < 10 ^ b) : a < b := by
  by_cases q : a < b
  · exact q
  · have := pw_mono (show b ≤ a by omega)
    omega
theorem IsLen.mono {p q L M : Nat} (h : p ≤ q) (hp : IsLen p L) (hq : IsLen q M) : L ≤ M := by
  rcases hp.2 with h0 | h0
  · omega
  · have := hq.1
    have := pw_lt (a := L - 1) (b := M) (by omega)
    omega
theorem IsLen.uniq {p L M : Nat} (hp : IsLen p L) (hq : IsLen p M) : L = M := by
  have h1 := IsLen.mono (Nat.le_refl p) hp hq
  have h2 := IsLen.mono (Nat.le_refl p) hq hp
  omega
theorem IsLen.zero {L : Nat} (h : IsLen 0 L) : L = 0 := by
  rcases h.2 with h0 | h0
  · exact h0
  · have : 0 < 10 ^ (L - 1) := Nat.pow_pos (by omega)
    omega
theorem IsLen.pos {p L : Nat} (h : IsLen p L) (hp : 1 ≤ p) : 1 ≤ L := by
  by_cases h0 : L = 0
  · have := h.1
    rw [h0] at this
    omega
  · omega
theorem IsLen.div {p L : Nat} (h : IsLen p (L + 1)) : 1 ≤ p ∧ IsLen (p / 10) L := by
  obtain ⟨h1, h2⟩ := h
  have h3 : 10 ^ L ≤ p := by
    rcases h2 with h2 | h2
    · omega
    · simpa using h2
  have h4 : 0 < 10 ^ L := Nat.pow_pos (by omega)
  refine ⟨by omega, ?_, ?_⟩
  · rw [Nat.pow_succ] at h1; omega
  · cases L with
    | zero => exact Or.inl rfl
    | succ L =>
      right
      simp only [Nat.add_sub_cancel]
      rw [Nat.pow_succ] at h3
      omega
theorem lengthOf_loop {w : Wd} : ∀ (L p y fu : Nat), IsLen p L → p < 2 ^ 31 → L < fu → h_X10_lengthOf_4 fu w (nI y) (nI p) = some (nI (y + L), w) := by
  intro L
  induction L with
  | zero =>
    intro p y fu h hp hfu
    obtain ⟨fu, rfl⟩ : ∃ z, fu = z + 1 := ⟨fu - 1, by omega⟩
    have h0 : p = 0 := by have := h.1; omega
    subst h0
    rw [h_X10_lengthOf_4, b_X10_lengthOf_4, if_pos (by decide), Nat.add_zero]
  | succ L ih =>
    intro p y fu h hp hfu
    obtain ⟨fu, rfl⟩ : ∃ z, fu = z + 1 := ⟨fu - 1, by omega⟩
    obtain ⟨h1, h2⟩ := h.div
    rw [h_X10_lengthOf_4, b_X10_lengthOf_4, if_neg (by rw [show (0 : Int32) = nI 0 from rfl, nI_leI (by omega) (by omega)]; omega), leti, show (10 : Int32) = nI 10 from rfl, nI_div (by omega) (by omega) (by omega), show (1 : Int32) = nI 1 from rfl, nI_add, ih _ _ _ h2 (by omega) (by omega), show y + 1 + L = y + (L + 1) from by omega]
theorem lengthOf_spec {w : Wd} {p L : Nat} (h : IsLen p L) (hp : p < 2 ^ 31) (hL : L ≤ 20) : f_X10_lengthOf w (nI p) = some (nI L, w) := by
  rw [f_X10_lengthOf, show (0 : Int32) = nI 0 from rfl, lengthOf_loop L p 0 FU h hp (by rw [FU_eq]; omega), Nat.zero_add]
/-- the signs that were dialled: m digits, the number D -/
def Dg (w : Wd) (m D : Nat) : Prop := w 8 0 5 = nI m ∧ m ≤ 13 ∧ IsLen D m ∧ ∀ i, i < m → w 8 4 i = nI (D / 10 ^ (m - 1 - i) % 10)
def pf (D p : Nat) : Bool := decide (∃ k, k < 14 ∧ D / 10 ^ k = p)
theorem pf_def {D p : Nat} : pf D p = true ↔ ∃ k, k < 14 ∧ D / 10 ^ k = p := decide_eq_true_iff
theorem pf_iff {D m p L : Nat} (hD : IsLen D m) (hm : m ≤ 13) (hp : IsLen p L) : pf D p = true ↔ (L ≤ m ∧ D / 10 ^ (m - L) = p) := by
  rw [pf_def]
  constructor
  · rintro ⟨k, hk, e⟩
    by_cases h0 : p = 0
    · subst h0
      have := hp.zero
      subst this
      exact ⟨by omega, Nat.div_eq_of_lt hD.1⟩
    · have hL := hp.pos (by omega)
      have h1 : 10 ^ (L - 1) ≤ p := by rcases hp.2 with h | h <;> omega
      have hk0 : 0 < 10 ^ k := Nat.pow_pos (by omega)
      have h2 : 10 ^ (L - 1) * 10 ^ k ≤ D := by
        rw [← e] at h1
        exact (Nat.le_div_iff_mul_le hk0).mp h1
      have h3 : D < 10 ^ L * 10 ^ k := by
        have := hp.1
        rw [← e] at this
        exact (Nat.div_lt_iff_lt_mul hk0).mp this
      rw [← Nat.pow_add] at h2 h3
      have h4 := pw_lt (a := L - 1 + k) (b := m) (by have := hD.1; omega)
      have h5 : m ≤ L + k := by
        rcases hD.2 with h | h
        · omega
        · have := pw_lt (a := m - 1) (b := L + k) (by omega)
          omega
      refine ⟨by omega, ?_⟩
      rw [show m - L = k from by omega]
      exact e
  · rintro ⟨h1, h2⟩
    exact ⟨m - L, by omega, h2⟩
/-- the model's loop of begins -/
theorem begins_loop {w : Wd} {m D : Nat} (hD : Dg w m D) : ∀ (k q fu : Nat), k ≤ m → q < 10 ^ k → q < 2 ^ 31 → k < fu → h_X10_begins_27 fu w (nI q) (nI 1) (nI k - nI 1) = some (if D / 10 ^ (m - k) = q then nI 1 else nI 0, w) := by
  obtain ⟨e5, hm, hL, hd⟩ := hD
  intro k
  induction k with
  | zero =>
    intro q fu h1 h2 h3 h4
    obtain ⟨fu, rfl⟩ : ∃ z, fu = z + 1 := ⟨fu - 1, by omega⟩
    have h0 : q = 0 := by omega
    subst h0
    rw [h_X10_begins_27, b_X10_begins_27, if_pos (by decide), if_pos (by decide), Nat.sub_zero, if_pos (Nat.div_eq_of_lt hL.1)]
  | succ k ih =>
    intro q fu h1 h2 h3 h4
    obtain ⟨fu, rfl⟩ : ∃ z, fu = z + 1 := ⟨fu - 1, by omega⟩
    have hdk := hd k (by omega)
    have e1 : D / 10 ^ (m - k) = D / 10 ^ (m - (k + 1)) / 10 := by
      rw [Nat.div_div_eq_div_mul, ← Nat.pow_succ, show (m - (k + 1)).succ = m - k from by omega]
    rw [show m - 1 - k = m - (k + 1) from by omega] at hdk
    generalize D / 10 ^ (m - (k + 1)) = X at hdk e1
    have hX : X % 10 < 10 := Nat.mod_lt _ (by omega)
    rw [nI_sub (by omega), Nat.add_sub_cancel, h_X10_begins_27, b_X10_begins_27, if_neg (nI_pos (by omega)), if_neg (by decide), if_pos (ibT (by omega) (by omega)), nI_clamp (by omega), hdk, show (10 : Int32) = nI 10 from rfl, nI_rem (by omega) (by omega) (by omega), nI_div (by omega) (by omega) (by omega), leti, leti, show (nI k + -1 : Int32) = nI k - nI 1 from (Int32.sub_eq_add_neg ..).symm]
    rw [Nat.pow_succ] at h2
    by_cases hq : X % 10 = q % 10
    · rw [if_pos (by rw [hq]), show (1 : Int32) = nI 1 from rfl, ih (q / 10) fu (by omega) (by omega) (by omega) (by omega), e1]
      by_cases hx : X = q
      · rw [if_pos (by rw [hx]), if_pos hx]
      · rw [if_neg (by omega), if_neg hx]
    · rw [if_neg (by rw [nI_eq (by omega) (by omega)]; exact hq), if_neg (show ¬ X = q from fun e => hq (by rw [e]))]
      obtain ⟨fu, rfl⟩ : ∃ z, fu = z + 1 := ⟨fu - 1, by omega⟩
      rw [h_X10_begins_27, b_X10_begins_27, if_pos (c := (0 : Int32) = 0) rfl, if_pos (show zb 0 = true from rfl)]
      split <;> rfl
theorem begins_spec {w : Wd} {m D p : Nat} (hD : Dg w m D) (hp : p ≤ 999999999) : f_X10_begins w (nI p) = some (if pf D p = true then nI 1 else nI 0, w) := by
  obtain ⟨L, h1, h2⟩ := IsLen.ex 9 p (by omega)
  have hi := pf_iff hD.2.2.1 hD.2.1 h2
  rw [f_X10_begins, lengthOf_spec h2 (by omega) (by omega), Option.bind_some]
  dsimp only
  rw [leti, leti]
  have hm := hD.2.1
  by_cases hlt : m < L
  · rw [if_pos (by rw [hD.1, nI_ltI (by omega) (by omega)]; exact hlt), if_neg (by rw [hi]; omega), show (1 : Int32) = nI 1 from rfl, nI_sub (by omega), show FU = (FU - 1) + 1 from by rw [FU_eq], h_X10_begins_27, b_X10_begins_27, if_neg (nI_pos (by omega)), if_pos rfl, if_pos (by decide)]
    rfl
  · rw [if_neg (by rw [hD.1, nI_ltI (by omega) (by omega)]; exact hlt), show (1 : Int32) = nI 1 from rfl, begins_loop hD L p FU (by omega) h2.1 (by omega) (by rw [FU_eq]; omega)]
    by_cases hx : D / 10 ^ (m - L) = p
    · rw [if_pos hx, if_pos (hi.mpr ⟨by omega, hx⟩)]
    · rw [if_neg hx, if_neg (fun q => hx (hi.mp q).2)]
/-- the router's -/
theorem bw_loop {w : Wd} {D p : Nat} (hD : D < 10 ^ 13) (hp : p ≤ 999999999) : ∀ (d y fu : Nat), 13 - y = d → y ≤ 13 → d < fu → (∀ k, k < y → p < D / 10 ^ k) → h_X9_beginsWith_5 fu w (nI p) (lI (D / 10 ^ y)) (nI y) = some (if pf D p = true then nI 1 else nI 0, w) := by
  have hle : ∀ k, D / 10 ^ k ≤ D := fun k => Nat.div_le_self _ _
  have hmono : ∀ a b, a ≤ b → D / 10 ^ b ≤ D / 10 ^ a := fun a b h => Nat.div_le_div_left (pw_mono h) (Nat.pow_pos (by omega))
  have h63 : (10 : Nat) ^ 13 < 2 ^ 63 := by decide
  have fin : ∀ y, y ≤ 13 → D / 10 ^ y ≤ p → (∀ k, k < y → p < D / 10 ^ k) → (if lg_cmp (lI (D / 10 ^ y)) (nI p).toInt64 = 0 then some ((1 : Int32), w) else some (0, w)) = some (if pf D p = true then nI 1 else nI 0, w) := by
    intro y hy hq hk
    have := hle y
    rw [lI_of (by omega)]
    by_cases he : D / 10 ^ y = p
    · rw [he, if_pos (lg_eq (by omega)), if_pos (pf_def.mpr ⟨y, by omega, he⟩)]; rfl
    · rw [if_neg (by rw [lg_lt (by omega) (by omega) (by omega)]; decide), if_neg]
      · rfl
      · rw [pf_def]
        rintro ⟨k, h1, h2⟩
        by_cases hky : k < y
        · have := hk k hky; omega
        · have := hmono y k (by omega); omega
  intro d
  induction d with
  | zero =>
    intro y fu h1 h2 h3 hk
    obtain ⟨fu, rfl⟩ : ∃ z, fu = z + 1 := ⟨fu - 1, by omega⟩
    have hy : y = 13 := by omega
    subst hy
    rw [h_X9_beginsWith_5, b_X9_beginsWith_5, if_pos (by decide)]
    refine fin 13 (by omega) ?_ hk
    rw [Nat.div_eq_of_lt hD]; omega
  | succ d ih =>
    intro y fu h1 h2 h3 hk
    obtain ⟨fu, rfl⟩ : ∃ z, fu = z + 1 := ⟨fu - 1, by omega⟩
    have := hle y
    rw [h_X9_beginsWith_5, b_X9_beginsWith_5, if_neg (by rw [lit, nI_leI (by omega) (by omega)]; omega)]
    by_cases hq : D / 10 ^ y ≤ p
    · rw [if_pos ?_]
      · exact fin y h2 hq hk
      · rw [lI_of (by omega)]
        by_cases he : D / 10 ^ y = p
        · rw [he, lg_eq (by omega)]; decide
        · rw [lg_lt (by omega) (by omega) (by omega)]; decide
    · rw [if_neg (by rw [lI_of (by omega), lg_gt (by omega) (by omega) (by omega)]; decide), letl, show (10 : Int64) = lI 10 from rfl, lI_div (by omega) (by omega) (by omega), Nat.div_div_eq_div_mul, ← Nat.pow_succ, nI_1]
      refine ih (y + 1) fu (by omega) (by omega) (by omega) (fun k hk' => ?_)
      by_cases hky : k = y
      · subst hky; omega
      · exact hk k (by omega)
theorem bw_spec {w : Wd} {D p : Nat} (hD : D < 10 ^ 13) (hp : p ≤ 999999999) : f_X9_beginsWith w (lI D) (nI p) = some (if pf D p = true then nI 1 else nI 0, w) := by
  have := bw_loop (w := w) hD hp 13 0 FU rfl (by omega) (by rw [FU_eq]; omega) (fun k h => by omega)
  rw [Nat.pow_zero, Nat.div_one] at this
  rw [f_X9_beginsWith]
  exact this
