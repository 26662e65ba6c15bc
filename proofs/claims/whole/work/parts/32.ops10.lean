/-! the askings -/
theorem Inv.mk' {t : Nat} {w : Wd} (H : Inv t w) : Inv t w := H
theorem op_time {t : Nat} {w : Wd} (H : Inv t w) : f_X10_time w = some (p_X9_time w, w) := by
  obtain ⟨S, R, P, hV, hC⟩ := H.now
  rw [f_X10_time, if_pos (show ib 4 640 = true from rfl), show Int32.toNatClampNeg 4 = 4 from rfl, p_X9_time, p_X4_minutes, hC.1.2.2.2.2.1]
theorem op_calls {t : Nat} {w : Wd} (H : Inv t w) : f_X10_calls w = some (p_X9_calls w, w) := by
  obtain ⟨S, R, P, hV, hC⟩ := H.now
  rw [f_X10_calls, if_pos (show ib 5 640 = true from rfl), show Int32.toNatClampNeg 5 = 5 from rfl, p_X9_calls, p_X0_size, hC.1.2.2.2.2.2]
theorem op_attempts {t : Nat} {w : Wd} (H : Inv t w) : p_X10_attempts w = p_X9_attempts w := by
  obtain ⟨A, h1, h2, h3, h4⟩ := H.2.2.2.2
  rw [p_X10_attempts, p_X9_attempts, p_X8_size, h2, h3]
theorem bandOf_c {w : Wd} {T : Nat} (hT : T < 2 ^ 31) : f_X9_bandOf w (nI T) = some (nI (bandN T), w) := by
  have h1 : T % 10080 < 10080 := Nat.mod_lt _ (by omega)
  have h2 : T % 10080 % 1440 < 1440 := Nat.mod_lt _ (by omega)
  rw [f_X9_bandOf, lit, fmod_spec w hT (by omega) (by omega), Option.bind_some]
  dsimp only
  unfold bandN
  simp only [lit]
  rw [nI_rem (by omega) (by omega) (by omega), in_same]
  by_cases hb : 7200 ≤ T % 10080
  · rw [if_neg (by rw [nI_ltI (by omega) (by omega)]; omega), if_pos hb]
  · rw [if_pos (by rw [nI_ltI (by omega) (by omega)]; omega), if_neg hb]
    by_cases hd : 480 ≤ T % 10080 % 1440 ∧ T % 10080 % 1440 ≤ 1199
    · rw [in_T hd.1 hd.2 (by omega), if_neg (by decide), if_pos hd]
    · rw [in_F (by omega) (fun k a b e => hd (by have := (nI_eq (by omega) (by omega)).mp e; omega)) (by omega), if_pos rfl, if_neg hd]
theorem bandOf_m {w : Wd} {T : Nat} (hT : T < 2 ^ 31) : p_X10_bandOf w (nI T) = nI (bandN T) := by
  have h1 : T % 10080 < 10080 := Nat.mod_lt _ (by omega)
  have h2 : T % 10080 % 1440 < 1440 := Nat.mod_lt _ (by omega)
  rw [p_X10_bandOf]
  simp only [lit, leti]
  rw [nI_rem hT (by omega) (by omega), nI_rem (by omega) (by omega) (by omega)]
  unfold bandN
  by_cases hb : 7200 ≤ T % 10080
  · rw [if_neg (by rw [nI_ltI (by omega) (by omega)]; omega), if_pos hb]
  · rw [if_pos (by rw [nI_ltI (by omega) (by omega)]; omega), if_neg hb]
    by_cases hd : 480 ≤ T % 10080 % 1440 ∧ T % 10080 % 1440 ≤ 1199
    · rw [in_T hd.1 hd.2 (by omega), if_neg (by decide), if_pos hd]
    · rw [in_F (by omega) (fun k a b e => hd (by have := (nI_eq (by omega) (by omega)).mp e; omega)) (by omega), if_pos rfl, if_neg hd]
theorem bandN_lt (T : Nat) : bandN T < 3 := by
  unfold bandN
  split
  · omega
  · split <;> omega
theorem op_band {t : Nat} {w : Wd} (H : Inv t w) : ∃ r, f_X9_band w = some (r, w) ∧ f_X10_band w = some (r, w) := by
  obtain ⟨S, R, P, hV, hC⟩ := H.now
  obtain ⟨T, hT, eT⟩ := hV.2.2.1
  have e8 : w 0 0 8 = nI T := hC.1.2.2.2.2.1.trans eT
  refine ⟨nI (bandN T), ?_, ?_⟩
  · rw [f_X9_band, p_X4_minutes, e8, bandOf_c (by omega), Option.bind_some]
  · rw [f_X10_band, if_pos (show ib 4 640 = true from rfl), show Int32.toNatClampNeg 4 = 4 from rfl, eT, bandOf_m (by omega)]
theorem op_owes {t : Nat} {w : Wd} (H : Inv t w) (x1 x2 : Int32) : ∃ r, f_X9_owes w x1 x2 = some (r, w) ∧ f_X10_owes w x1 x2 = some (r, w) := by
  obtain ⟨S, R, P, hV, hC⟩ := H.now
  have hS := hV.1.1
  have eS8 : w 8 1 0 = nI S := hV.1.2.2.2.1
  have eS : w 0 0 5 = nI S := hC.1.1.trans eS8
  rcases rl x1 S with ⟨a, ha, rfl⟩ | h
  · rcases rl x2 S with ⟨b, hb, rfl⟩ | h
    · have e := hC.2.2.2.1 (8 * a + b) (by omega)
      refine ⟨w 8 1 (570 + (8 * a + b)), ?_, ?_⟩
      · rw [f_X9_owes, hasSw_T hS eS ha, hasSw_T hS eS hb, if_neg (by decide), if_neg (by decide), f_X4_debt, hasSw_T hS eS ha, hasSw_T hS eS hb, if_neg (by decide), if_neg (by decide), lit, nI_mul, nI_add, if_pos (by rw [ib_nI (by omega)]; exact decide_eq_true (by omega)), nI_clamp (by omega), Option.bind_some, show a * 8 + b = 8 * a + b from by omega, e]
      · rw [f_X10_owes, isSw_T hS eS8 ha, Option.bind_some]
        dsimp only
        rw [if_neg (by decide), isSw_T hS eS8 hb, Option.bind_some]
        dsimp only
        rw [if_neg (by decide), lit, lit, nI_mul, nI_add, nI_add, if_pos (by rw [ib_nI (by omega)]; exact decide_eq_true (by omega)), nI_clamp (by omega), show 570 + 8 * a + b = 570 + (8 * a + b) from by omega]
    · refine ⟨-1, ?_, ?_⟩
      · rw [f_X9_owes, hasSw_T hS eS ha, hasSw_F hS eS h, if_neg (by decide), if_pos (by decide)]
      · rw [f_X10_owes, isSw_T hS eS8 ha, Option.bind_some]
        dsimp only
        rw [if_neg (by decide), isSw_F hS eS8 h, Option.bind_some]
        dsimp only
        rw [if_pos (by decide)]
  · refine ⟨-1, ?_, ?_⟩
    · rw [f_X9_owes, hasSw_F hS eS h, if_pos (by decide)]
    · rw [f_X10_owes, isSw_F hS eS8 h, Option.bind_some]
      dsimp only
      rw [if_pos (by decide)]
theorem op_clear {t : Nat} {w : Wd} (H : Inv t w) : ∃ r w1 w2, f_X9_clear w = some (r, w1) ∧ f_X10_clear w1 = some (r, w2) ∧ Inv t w2 := by
  obtain ⟨ht, hN, hH, ⟨L, l1, l2, l3, l4⟩, hA⟩ := H
  refine ⟨nI L, wup w 7 3 7 0, wup (wup w 7 3 7 0) 8 0 19 0, ?_, ?_, ht, ?_, ?_, ?_, ?_⟩
  · rw [f_X9_clear, p_X7_size, l2, leti, f_X7_empty, letw, Option.bind_some]
  · rw [f_X10_clear, leti, letw, wup_at, if_neg (by omega), l3]
  · have e0 : wup (wup w 7 3 7 0) 8 0 19 0 0 = w 0 := by
      funext c
      rw [wup_row, if_neg (by omega), wup_row, if_neg (by omega)]
    rw [e0, wup_row, if_neg (by omega), wup_row, if_neg (by omega)]
    exact hN
  · obtain ⟨F, C, a1, a2, a3, a4, a5, a6⟩ := hH
    refine ⟨F, C, a1, a2, ?_, ?_, ?_, fun i hi => ?_⟩
    · rw [wup_at, if_neg (by omega), wup_at, if_neg (by omega)]; exact a3
    · rw [wup_at, if_neg (by omega), wup_at, if_neg (by omega)]; exact a4
    · rw [wup_at, if_neg (by omega), wup_at, if_neg (by omega)]; exact a5
    · refine (a6 i hi).congr (fun c j hr => ?_) (fun j hj => ?_)
      · have : (F + i) % 5 < 5 := Nat.mod_lt _ (by omega)
        rw [wup_at, if_neg (by omega), wup_at, if_neg (by omega)]
      · rw [wup_at, if_neg (by omega), wup_at, if_neg (by omega)]
  · refine ⟨0, by omega, ?_, ?_, fun i hi => by omega⟩
    · rw [wup_at, if_neg (by omega), wup_at, if_pos (by omega)]; rfl
    · rw [wup_at, if_pos (by omega)]; rfl
  · refine hA.congr ?_ ?_ ?_ ?_ ?_ ?_
    · rw [wup_at, if_neg (by omega), wup_at, if_neg (by omega)]
    · rw [wup_at, if_neg (by omega), wup_at, if_neg (by omega)]
    · rw [wup_row, if_neg (by omega), wup_row, if_neg (by omega)]
    · rw [wup_row, if_neg (by omega), wup_row, if_neg (by omega)]
    · rw [wup_row, if_neg (by omega), wup_row, if_neg (by omega)]
    · rw [wup_row, if_neg (by omega), wup_row, if_neg (by omega)]
theorem chr_nI : ∀ k, k < 127 → (Int32.toUInt32 (nI k) % 65536).toInt32 = nI k ∧ vp_nar .char (nI k) = nI k := by decide +kernel
theorem op_type {t : Nat} {w : Wd} (H : Inv t w) (x : Int32) : ∃ r w1 w2, f_X9_type w x = some (r, w1) ∧ f_X10_type w1 x = some (r, w2) ∧ Inv t w2 := by
  obtain ⟨ht, hN, hH, ⟨L, l1, l2, l3, l4⟩, hA⟩ := id H
  rcases rg x 32 126 with ⟨k, h1, h2, rfl⟩ | h
  · have hI : ∀ w, p_X10_in w (nI k) (nI 32) (nI 126) = nI 1 := fun w => in_T h1 h2 (by omega)
    obtain ⟨c1, c2⟩ := chr_nI k (by omega)
    by_cases hL : L < 80
    · have q0 : wup w 7 4 L (nI k) 7 3 7 = nI L := by rw [wup_at, if_neg (by omega)]; exact l2
      have q1 : (wup (wup w 7 4 L (nI k)) 7 3 7 (nI (L + 1))) 8 0 19 = nI L := by rw [wup_at, if_neg (by omega), wup_at, if_neg (by omega)]; exact l3
      have q2 : (wup (wup (wup w 7 4 L (nI k)) 7 3 7 (nI (L + 1))) 8 14 L (nI k)) 8 0 19 = nI L := by rw [wup_at, if_neg (by omega)]; exact q1
      refine ⟨nI (L + 1), wup (wup w 7 4 L (nI k)) 7 3 7 (nI (L + 1)), wup (wup (wup (wup w 7 4 L (nI k)) 7 3 7 (nI (L + 1))) 8 14 L (nI k)) 8 0 19 (nI (L + 1)), ?_, ?_, ht, ?_, ?_, ?_, ?_⟩
      · rw [f_X9_type, in_same, lit, lit, hI, if_neg (by decide), c1, f_X7_append, l2, if_pos (by rw [lit, nI_ltI (by omega) (by omega)]; omega), if_pos (by rw [ib_nI (by omega)]; exact decide_eq_true hL), nI_clamp (by omega), c2, letw, q0, lit, nI_add, letw, Option.bind_some]
        dsimp only
        rw [if_neg (by decide), p_X7_size, wup_at, if_pos (by omega)]
      · rw [f_X10_type, lit, lit, hI, if_neg (by decide), q1, if_neg (by rw [lit, nI_eq (by omega) (by omega)]; omega), if_pos (by rw [ib_nI (by omega)]; exact decide_eq_true hL), nI_clamp (by omega), letw, q2, lit, nI_add, letw, wup_at, if_pos (by omega)]
      · have e0 : wup (wup (wup (wup w 7 4 L (nI k)) 7 3 7 (nI (L + 1))) 8 14 L (nI k)) 8 0 19 (nI (L + 1)) 0 = w 0 := by
          funext c
          rw [wup_row, if_neg (by omega), wup_row, if_neg (by omega), wup_row, if_neg (by omega), wup_row, if_neg (by omega)]
        rw [e0, wup_row, if_neg (by omega), wup_row, if_neg (by omega), wup_row, if_neg (by omega), wup_row, if_neg (by omega)]
        exact hN
      · obtain ⟨F, C, a1, a2, a3, a4, a5, a6⟩ := hH
        refine ⟨F, C, a1, a2, ?_, ?_, ?_, fun i hi => ?_⟩
        · rw [wup_at, if_neg (by omega), wup_at, if_neg (by omega), wup_at, if_neg (by omega), wup_at, if_neg (by omega)]; exact a3
        · rw [wup_at, if_neg (by omega), wup_at, if_neg (by omega), wup_at, if_neg (by omega), wup_at, if_neg (by omega)]; exact a4
        · rw [wup_at, if_neg (by omega), wup_at, if_neg (by omega), wup_at, if_neg (by omega), wup_at, if_neg (by omega)]; exact a5
        · refine (a6 i hi).congr (fun c j hr => ?_) (fun j hj => ?_)
          · have : (F + i) % 5 < 5 := Nat.mod_lt _ (by omega)
            rw [wup_at, if_neg (by omega), wup_at, if_neg (by omega), wup_at, if_neg (by omega), wup_at, if_neg (by omega)]
          · rw [wup_at, if_neg (by omega), wup_at, if_neg (by omega), wup_at, if_neg (by omega), wup_at, if_neg (by omega)]
      · refine ⟨L + 1, by omega, ?_, ?_, fun i hi => ?_⟩
        · rw [wup_at, if_neg (by omega), wup_at, if_neg (by omega), wup_at, if_pos (by omega)]
        · rw [wup_at, if_pos (by omega)]
        · by_cases hiL : i = L
          · subst hiL
            refine ⟨k, h1, h2, ?_, ?_⟩
            · rw [wup_at, if_neg (by omega), wup_at, if_neg (by omega), wup_at, if_neg (by omega), wup_at, if_pos (by omega)]
            · rw [wup_at, if_neg (by omega), wup_at, if_pos (by omega)]
          · obtain ⟨c, z1, z2, z3, z4⟩ := l4 i (by omega)
            refine ⟨c, z1, z2, ?_, ?_⟩
            · rw [wup_at, if_neg (by omega), wup_at, if_neg (by omega), wup_at, if_neg (by omega), wup_at, if_neg (by omega)]; exact z3
            · rw [wup_at, if_neg (by omega), wup_at, if_neg (by omega), wup_at, if_neg (by omega), wup_at, if_neg (by omega)]; exact z4
      · refine hA.congr ?_ ?_ ?_ ?_ ?_ ?_
        · rw [wup_at, if_neg (by omega), wup_at, if_neg (by omega), wup_at, if_neg (by omega), wup_at, if_neg (by omega)]
        · rw [wup_at, if_neg (by omega), wup_at, if_neg (by omega), wup_at, if_neg (by omega), wup_at, if_neg (by omega)]
        · rw [wup_row, if_neg (by omega), wup_row, if_neg (by omega), wup_row, if_neg (by omega), wup_row, if_neg (by omega)]
        · rw [wup_row, if_neg (by omega), wup_row, if_neg (by omega), wup_row, if_neg (by omega), wup_row, if_neg (by omega)]
        · rw [wup_row, if_neg (by omega), wup_row, if_neg (by omega), wup_row, if_neg (by omega), wup_row, if_neg (by omega)]
        · rw [wup_row, if_neg (by omega), wup_row, if_neg (by omega), wup_row, if_neg (by omega), wup_row, if_neg (by omega)]
    · have hL : L = 80 := by omega
      subst hL
      refine ⟨-3, w, w, ?_, ?_, H⟩
      · rw [f_X9_type, in_same, lit, lit, hI, if_neg (by decide), c1, f_X7_append, l2, if_neg (by decide), Option.bind_some]
        dsimp only
        rw [if_pos (by decide)]
      · rw [f_X10_type, lit, lit, hI, if_neg (by decide), l3, if_pos (by decide)]
  · have hI : ∀ w, p_X10_in w x (nI 32) (nI 126) = nI 0 := fun w => in_F (by omega) h (by omega)
    refine ⟨-1, w, w, ?_, ?_, H⟩
    · rw [f_X9_type, in_same, lit, lit, hI, if_pos (by decide)]
    · rw [f_X10_type, lit, lit, hI, if_pos (by decide)]
