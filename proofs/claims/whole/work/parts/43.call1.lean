/-! the bits of a way -/
def pop (M : Nat) : Nat := (M.testBit 0).toNat + (M.testBit 1).toNat + (M.testBit 2).toNat + (M.testBit 3).toNat + (M.testBit 4).toNat + (M.testBit 5).toNat + (M.testBit 6).toNat + (M.testBit 7).toNat
theorem bc_spec (w : Wd) : ∀ M, M < 256 → p_J6_bitCount_0f7a4 w (nI M) = nI (pop M) := by
  unfold p_J6_bitCount_0f7a4
  simp only [leti]
  decide +kernel
theorem pop_or : ∀ M, M < 256 → ∀ a, a < 8 → M.testBit a = false → pop (M ||| 2 ^ a) = pop M + 1 := by decide +kernel
theorem or_lt : ∀ M, M < 256 → ∀ a, a < 8 → M ||| 2 ^ a < 256 := by decide +kernel
theorem or_nI : ∀ M, M < 256 → ∀ a, a < 8 → nI M ||| (1 <<< (nI a &&& 31)) = nI (M ||| 2 ^ a) := by decide +kernel
theorem bit_0 : ∀ c, c ≤ 62 → c % 2 = 0 → c.testBit 0 = false ∧ c.testBit 6 = false := by decide +kernel
theorem mask_tst {M a : Nat} (hM : M < 256) (ha : a < 8) : (((nI M >>> (nI a &&& 31)) &&& 1) = 0) = (M.testBit a = false) := by
  have := bit_tst M hM a ha
  rw [show ((nI M >>> (nI a &&& 31)) &&& 1 : Int32) = ((nI M >>> (nI a &&& nI 31)) &&& nI 1) from rfl, this]
  cases M.testBit a
  · exact propext ⟨fun _ => rfl, fun _ => by decide⟩
  · exact propext ⟨fun h => absurd h (by decide), fun h => by cases h⟩
theorem mask_tst1 {M a : Nat} (hM : M < 256) (ha : a < 8) : (((nI M >>> (nI a &&& 31)) &&& 1) = 1) = (M.testBit a = true) := by
  have := bit_tst M hM a ha
  rw [show ((nI M >>> (nI a &&& 31)) &&& 1 : Int32) = ((nI M >>> (nI a &&& nI 31)) &&& nI 1) from rfl, this]
  cases M.testBit a
  · exact propext ⟨fun h => absurd h (by decide), fun h => by cases h⟩
  · exact propext ⟨fun _ => rfl, fun _ => by decide⟩
/-! busy numbers -/
def bzy (v : Nat → Int32) (n : Nat) : Prop := ∃ p, p < 10 ∧ v (420 + 14 * p) = nI 1 ∧ v (420 + 14 * p + 1) = nI n
theorem cBusy_loop {w : Wd} {N : Nat → Nat → Int32} {v : Nat → Int32} {n : Nat} (hn : 1 ≤ n ∧ n < 2 ^ 31) (h0 : w 0 = N) (hC : ∀ p, p < 10 → cC N v p) : ∀ (d k fu : Nat), 10 - k = d → k ≤ 10 → d < fu → ∃ z, (z = nI 1 ∨ z = nI 0) ∧ h_X0_isBusy_2 0 fu w (nI n) (nI k) = some (z, w) ∧ (z = nI 1 ↔ ∃ p, k ≤ p ∧ p < 10 ∧ v (420 + 14 * p) = nI 1 ∧ v (420 + 14 * p + 1) = nI n) := by
  intro d
  induction d with
  | zero =>
    intro k fu h1 h2 h3
    obtain ⟨fu, rfl⟩ : ∃ z, fu = z + 1 := ⟨fu - 1, by omega⟩
    have hk : k = 10 := by omega
    subst hk
    refine ⟨nI 0, Or.inr rfl, ?_, fun h => absurd h (by decide), fun ⟨p, a, b, _⟩ => by omega⟩
    rw [h_X0_isBusy_2, b_X0_isBusy_2, if_pos (by decide)]
    rfl
  | succ d ih =>
    intro k fu h1 h2 h3
    obtain ⟨fu, rfl⟩ : ∃ z, fu = z + 1 := ⟨fu - 1, by omega⟩
    rw [h_X0_isBusy_2, b_X0_isBusy_2, if_neg (by rw [lit, nI_leI (by omega) (by omega)]; omega), if_pos (ibT (by omega) (by omega)), nI_clamp (by omega), h0, nI_1]
    obtain ⟨z, z1, z2, z3⟩ := ih (k + 1) fu (by omega) (by omega) (by omega)
    rcases hC k (by omega) with ⟨e1, e2⟩ | ⟨e1, e2, -⟩
    · rw [e2, if_neg (by rw [nI_eq (by omega) (by omega)]; omega)]
      refine ⟨z, z1, z2, z3.trans ⟨fun ⟨p, a, b⟩ => ⟨p, by omega, b⟩, fun ⟨p, a, b, c, d⟩ => ⟨p, ?_, b, c, d⟩⟩⟩
      by_cases hp : p = k
      · rw [hp, e1] at c; exact absurd c (by decide)
      · omega
    · by_cases he : v (420 + 14 * k + 1) = nI n
      · rw [if_pos (by rw [e2, he])]
        exact ⟨nI 1, Or.inl rfl, rfl, fun _ => ⟨k, by omega, by omega, e1, he⟩, fun _ => rfl⟩
      · rw [if_neg (by rw [e2]; exact he)]
        refine ⟨z, z1, z2, z3.trans ⟨fun ⟨p, a, b⟩ => ⟨p, by omega, b⟩, fun ⟨p, a, b, c, d⟩ => ⟨p, ?_, b, c, d⟩⟩⟩
        by_cases hp : p = k
        · rw [hp] at d; exact absurd d he
        · omega
theorem mBusy_loop {w : Wd} {v : Nat → Int32} {n : Nat} (h0 : ∀ j, 420 ≤ j → j < 560 → w 8 1 j = v j) : ∀ (d k fu : Nat) (y : Nat), 10 - k = d → k ≤ 10 → d < fu → y < 2 → ∃ z, (z = nI 1 ∨ z = nI 0) ∧ h_X10_isBusy_4 fu w (nI n) (nI y) (nI k) = some (z, w) ∧ (z = nI 1 ↔ (y = 1 ∨ ∃ p, k ≤ p ∧ p < 10 ∧ v (420 + 14 * p) = nI 1 ∧ v (420 + 14 * p + 1) = nI n)) := by
  intro d
  induction d with
  | zero =>
    intro k fu y h1 h2 h3 hy
    obtain ⟨fu, rfl⟩ : ∃ z, fu = z + 1 := ⟨fu - 1, by omega⟩
    have hk : k = 10 := by omega
    subst hk
    have hn : ¬ ∃ p, 10 ≤ p ∧ p < 10 ∧ v (420 + 14 * p) = nI 1 ∧ v (420 + 14 * p + 1) = nI n := fun ⟨p, a, b, _⟩ => by omega
    rw [h_X10_isBusy_4, b_X10_isBusy_4, if_pos (by decide)]
    rcases (show y = 0 ∨ y = 1 by omega) with rfl | rfl
    · exact ⟨nI 0, Or.inr rfl, by rw [if_pos (by decide)], fun h => absurd h (by decide), fun h => by
        rcases h with h | h
        · omega
        · exact absurd h hn⟩
    · exact ⟨nI 1, Or.inl rfl, by rw [if_pos (by decide)], fun _ => Or.inl rfl, fun _ => rfl⟩
  | succ d ih =>
    intro k fu y h1 h2 h3 hy
    obtain ⟨fu, rfl⟩ : ∃ z, fu = z + 1 := ⟨fu - 1, by omega⟩
    rw [h_X10_isBusy_4, b_X10_isBusy_4, if_neg (by rw [lit, nI_leI (by omega) (by omega)]; omega), show (nI k + 1 : Int32) = nI (k + 1) from nI_add k 1]
    have hy' : y = 0 ∨ y = 1 := by omega
    have hkk : k ≤ k ∧ k < 10 ∧ 10 - (k + 1) = d ∧ k + 1 ≤ 10 ∧ d < fu ∧ (0 : Nat) < 2 ∧ (1 : Nat) < 2 := by omega
    have i1 := ih (k + 1) fu 1 hkk.2.2.1 hkk.2.2.2.1 hkk.2.2.2.2.1 hkk.2.2.2.2.2.2
    have i0 := ih (k + 1) fu 0 hkk.2.2.1 hkk.2.2.2.1 hkk.2.2.2.2.1 hkk.2.2.2.2.2.1
    rcases hy' with rfl | rfl
    · clear i1 i0
      rw [if_pos (show nI 0 = 0 from rfl), show (420 + 14 * nI k : Int32) = nI (420 + 14 * k) from by rw [lit, lit, nI_mul, nI_add], if_pos (ibT (by omega) (by omega)), nI_clamp (by omega), show (nI (420 + 14 * k) + 1 : Int32) = nI (420 + 14 * k + 1) from nI_add _ 1, if_pos (ibT (by omega) (by omega)), nI_clamp (by omega), h0 _ (by omega) (by omega), h0 _ (by omega) (by omega)]
      by_cases e1 : v (420 + 14 * k) = nI 1
      · rw [if_pos (show v (420 + 14 * k) = 1 from e1)]
        by_cases he : v (420 + 14 * k + 1) = nI n
        · rw [if_pos he]
          obtain ⟨z, z1, z2, z3⟩ := ih (k + 1) fu 1 hkk.2.2.1 hkk.2.2.2.1 hkk.2.2.2.2.1 hkk.2.2.2.2.2.2
          exact ⟨z, z1, z2, z3.trans ⟨fun _ => Or.inr ⟨k, hkk.1, hkk.2.1, e1, he⟩, fun _ => Or.inl rfl⟩⟩
        · rw [if_neg he]
          obtain ⟨z, z1, z2, z3⟩ := ih (k + 1) fu 0 hkk.2.2.1 hkk.2.2.2.1 hkk.2.2.2.2.1 hkk.2.2.2.2.2.1
          refine ⟨z, z1, z2, z3.trans ⟨fun h => ?_, fun h => ?_⟩⟩
          · rcases h with h | ⟨p, a, b⟩
            · omega
            · exact Or.inr ⟨p, by omega, b⟩
          · rcases h with h | ⟨p, a, b, c, d⟩
            · omega
            · refine Or.inr ⟨p, ?_, b, c, d⟩
              by_cases hp : p = k
              · rw [hp] at d; exact absurd d he
              · omega
      · rw [if_neg (show ¬ v (420 + 14 * k) = 1 from e1)]
        obtain ⟨z, z1, z2, z3⟩ := ih (k + 1) fu 0 hkk.2.2.1 hkk.2.2.2.1 hkk.2.2.2.2.1 hkk.2.2.2.2.2.1
        refine ⟨z, z1, z2, z3.trans ⟨fun h => ?_, fun h => ?_⟩⟩
        · rcases h with h | ⟨p, a, b⟩
          · omega
          · exact Or.inr ⟨p, by omega, b⟩
        · rcases h with h | ⟨p, a, b, c, d⟩
          · omega
          · refine Or.inr ⟨p, ?_, b, c, d⟩
            by_cases hp : p = k
            · rw [hp] at c; exact absurd c e1
            · omega
    · rw [if_neg (by decide)]
      obtain ⟨z, z1, z2, z3⟩ := i1
      exact ⟨z, z1, z2, z3.trans ⟨fun _ => Or.inl rfl, fun _ => Or.inl rfl⟩⟩
/-- both say the same of a number: code 5 or 0 -/
theorem busy_both {t S R P n : Nat} {N : Nat → Nat → Int32} {v : Nat → Int32} (hn : 1 ≤ n ∧ n < 2 ^ 31) (hC : Cp N v S R P) : ∃ bz, (bz = 0 ∨ bz = 5) ∧ (∀ w : Wd, w 0 = N → f_X0_isBusy 0 w (nI n) = some (if bz = 5 then nI 1 else nI 0, w)) ∧ ∀ w : Wd, (∀ j, 420 ≤ j → j < 560 → w 8 1 j = v j) → f_X10_isBusy w (nI n) = some (if bz = 5 then nI 1 else nI 0, w) := by
  have n01 : ¬ nI 0 = nI 1 := by decide
  by_cases hb : ∃ p, 0 ≤ p ∧ p < 10 ∧ v (420 + 14 * p) = nI 1 ∧ v (420 + 14 * p + 1) = nI n
  · refine ⟨5, Or.inr rfl, fun w h0 => ?_, fun w h0 => ?_⟩
    · obtain ⟨z, z1, z2, z3⟩ := cBusy_loop hn h0 hC.2.2.2.2.2.2 10 0 FU rfl (by omega) (by rw [FU_eq]; omega)
      rw [f_X0_isBusy, if_pos rfl, show (0 : Int32) = nI 0 from rfl, z2, z3.mpr hb]
    · obtain ⟨z, z1, z2, z3⟩ := mBusy_loop (n := n) h0 10 0 FU 0 rfl (by omega) (by rw [FU_eq]; omega) (by omega)
      rw [f_X10_isBusy, if_pos rfl, show (0 : Int32) = nI 0 from rfl, z2, z3.mpr (Or.inr hb)]
  · refine ⟨0, Or.inl rfl, fun w h0 => ?_, fun w h0 => ?_⟩
    · obtain ⟨z, z1, z2, z3⟩ := cBusy_loop hn h0 hC.2.2.2.2.2.2 10 0 FU rfl (by omega) (by rw [FU_eq]; omega)
      rw [f_X0_isBusy, if_neg (by omega), show (0 : Int32) = nI 0 from rfl, z2]
      rcases z1 with z1 | z1
      · exact absurd (z3.mp z1) hb
      · rw [z1]
    · obtain ⟨z, z1, z2, z3⟩ := mBusy_loop (n := n) h0 10 0 FU 0 rfl (by omega) (by rw [FU_eq]; omega) (by omega)
      rw [f_X10_isBusy, if_neg (by omega), show (0 : Int32) = nI 0 from rfl, z2]
      rcases z1 with z1 | z1
      · rcases z3.mp z1 with h | h
        · omega
        · exact absurd h hb
      · rw [z1]
theorem goesOn_spec {t S R P a k c : Nat} {v : Nat → Int32} {w : Wd} (hV : Vd t v S R P) (hC : Cp (w 0) v S R P) (ha : a < S) (hk : k < 8) (hc : c ≤ 62) (ec : v (18 + a) = nI c) : f_X4_goesOn 0 w (nI a) (nI k) = some (if c.testBit k = true then nI 1 else nI 0, w) := by
  have hS := hV.1.1
  have eS : w 0 0 5 = nI S := hC.1.1.trans hV.1.2.2.2.1
  rw [f_X4_goesOn, hasSw_T hS eS ha, if_neg (by decide), if_pos (ibT (by omega) (by omega)), nI_clamp (by omega), hC.2.2.1 a ha, ec]
  by_cases h : c.testBit k = true
  · rw [if_neg (by rw [mask_tst (by omega) hk, h]; exact Bool.noConfusion), if_pos h]; rfl
  · rw [if_pos (by rw [mask_tst (by omega) hk]; simpa using h), if_neg h]; rfl
