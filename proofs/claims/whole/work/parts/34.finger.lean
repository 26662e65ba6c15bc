def fo (g : Nat → Int32) : Nat → Nat → Int64 → Int64
  | 0, _, a => a
  | d + 1, i, a => fo g d (i + 1) (31 * a + Int32.toInt64 (g i))
def foR (g : Nat → Nat → Int32) (n : Nat) : Nat → Nat → Int64 → Int64
  | 0, _, a => a
  | d + 1, r, a => foR g n d (r + 1) (fo (g r) n 0 a)
theorem debt_T {t S R P a b : Nat} {w : Wd} (hV : Vd t (w 8 1) S R P) (hC : Cp (w 0) (w 8 1) S R P) (ha : a < S) (hb : b < S) : f_X4_debt 0 w (nI a) (nI b) = some (w 8 1 (570 + 8 * a + b), w) := by
  have hS := hV.1.1
  have eS : w 0 0 5 = nI S := hC.1.1.trans hV.1.2.2.2.1
  have e := hC.2.2.2.1 (8 * a + b) (by omega)
  rw [f_X4_debt, hasSw_T hS eS ha, hasSw_T hS eS hb, if_neg (by decide), if_neg (by decide), lit, nI_mul, nI_add, if_pos (ibT (by omega) (by omega)), nI_clamp (by omega), show a * 8 + b = 8 * a + b from by omega, e, show 570 + (8 * a + b) = 570 + 8 * a + b from by omega]
theorem fold17 {t S R P r : Nat} {w : Wd} (hV : Vd t (w 8 1) S R P) (hC : Cp (w 0) (w 8 1) S R P) (hr : r < R) (rc : Wd → Int64 → Int32 → Option (Int64 × Wd)) : ∀ (d k fu : Nat) (a : Int64), 8 - k = d → k ≤ 8 → d < fu → h_X6_fold_17 0 rc fu w a (nI r) (nI k) = rc w (fo (fun j => w 8 1 (30 + 8 * r + j)) d k a) (nI (r + 1)) := by
  intro d
  induction d with
  | zero =>
    intro k fu a h1 h2 h3
    obtain ⟨fu, rfl⟩ : ∃ z, fu = z + 1 := ⟨fu - 1, by omega⟩
    rw [h_X6_fold_17, b_X6_fold_17, if_pos (by rw [lit, nI_leI (by omega) (by omega)]; omega), nI_1, fo]
  | succ d ih =>
    intro k fu a h1 h2 h3
    obtain ⟨fu, rfl⟩ : ∃ z, fu = z + 1 := ⟨fu - 1, by omega⟩
    rw [h_X6_fold_17, b_X6_fold_17, if_neg (by rw [lit, nI_leI (by omega) (by omega)]; omega), num_T hV hC hr (by omega), Option.bind_some]
    dsimp only
    rw [letl, nI_1, ih (k + 1) fu _ (by omega) (by omega) (by omega), fo]
theorem fold5 {t S R P : Nat} {w : Wd} (hV : Vd t (w 8 1) S R P) (hC : Cp (w 0) (w 8 1) S R P) : ∀ (d r fu : Nat) (a : Int64), R - r = d → r ≤ R → d < fu → h_X6_fold_5 0 fu w a (nI r) = some (foR (fun r j => w 8 1 (30 + 8 * r + j)) 8 d r a, w) := by
  have hR := hV.1.2.1
  have eR : w 0 3 6 = nI R := hC.1.2.1.trans hV.1.2.2.2.2.1
  intro d
  induction d with
  | zero =>
    intro r fu a h1 h2 h3
    obtain ⟨fu, rfl⟩ : ∃ z, fu = z + 1 := ⟨fu - 1, by omega⟩
    rw [h_X6_fold_5, b_X6_fold_5, eR, if_pos (by rw [nI_leI (by omega) (by omega)]; omega), foR]
  | succ d ih =>
    intro r fu a h1 h2 h3
    obtain ⟨fu, rfl⟩ : ∃ z, fu = z + 1 := ⟨fu - 1, by omega⟩
    rw [h_X6_fold_5, b_X6_fold_5, eR, if_neg (by rw [nI_leI (by omega) (by omega)]; omega), show (0 : Int32) = nI 0 from rfl, fold17 hV hC (by omega) _ 8 0 FU a rfl (by omega) (by rw [FU_eq]; omega), ih (r + 1) fu _ (by omega) (by omega) (by omega), foR]
theorem debt17 {t S R P s : Nat} {w : Wd} (hV : Vd t (w 8 1) S R P) (hC : Cp (w 0) (w 8 1) S R P) (hs : s < S) (rc : Wd → Int64 → Int32 → Option (Int64 × Wd)) : ∀ (d k fu : Nat) (a : Int64), S - k = d → k ≤ S → d < fu → h_X4_foldDebts_17 0 rc fu w a (nI s) (nI k) = rc w (fo (fun j => w 8 1 (570 + 8 * s + j)) d k a) (nI (s + 1)) := by
  have hS := hV.1.1
  have eS : w 0 0 5 = nI S := hC.1.1.trans hV.1.2.2.2.1
  intro d
  induction d with
  | zero =>
    intro k fu a h1 h2 h3
    obtain ⟨fu, rfl⟩ : ∃ z, fu = z + 1 := ⟨fu - 1, by omega⟩
    rw [h_X4_foldDebts_17, b_X4_foldDebts_17, eS, if_pos (by rw [nI_leI (by omega) (by omega)]; omega), nI_1, fo]
  | succ d ih =>
    intro k fu a h1 h2 h3
    obtain ⟨fu, rfl⟩ : ∃ z, fu = z + 1 := ⟨fu - 1, by omega⟩
    rw [h_X4_foldDebts_17, b_X4_foldDebts_17, eS, if_neg (by rw [nI_leI (by omega) (by omega)]; omega), debt_T hV hC hs (by omega), Option.bind_some]
    dsimp only
    rw [letl, nI_1, ih (k + 1) fu _ (by omega) (by omega) (by omega), fo]
theorem debt5 {t S R P : Nat} {w : Wd} (hV : Vd t (w 8 1) S R P) (hC : Cp (w 0) (w 8 1) S R P) : ∀ (d s fu : Nat) (a : Int64), S - s = d → s ≤ S → d < fu → h_X4_foldDebts_5 0 fu w a (nI s) = some (foR (fun s j => w 8 1 (570 + 8 * s + j)) S d s a, w) := by
  have hS := hV.1.1
  have eS : w 0 0 5 = nI S := hC.1.1.trans hV.1.2.2.2.1
  intro d
  induction d with
  | zero =>
    intro s fu a h1 h2 h3
    obtain ⟨fu, rfl⟩ : ∃ z, fu = z + 1 := ⟨fu - 1, by omega⟩
    rw [h_X4_foldDebts_5, b_X4_foldDebts_5, eS, if_pos (by rw [nI_leI (by omega) (by omega)]; omega), foR]
  | succ d ih =>
    intro s fu a h1 h2 h3
    obtain ⟨fu, rfl⟩ : ∃ z, fu = z + 1 := ⟨fu - 1, by omega⟩
    rw [h_X4_foldDebts_5, b_X4_foldDebts_5, eS, if_neg (by rw [nI_leI (by omega) (by omega)]; omega), show (0 : Int32) = nI 0 from rfl, debt17 hV hC (by omega) _ S 0 FU a (by omega) (by omega) (by rw [FU_eq]; omega), ih (s + 1) fu _ (by omega) (by omega) (by omega), foR]
theorem m39 {w : Wd} {r : Nat} (hr : r < 40) (rc : Wd → Int64 → Int32 → Option (Int64 × Wd)) : ∀ (d k fu : Nat) (a : Int64), 8 - k = d → k ≤ 8 → d < fu → h_X10_fingerprint_39 rc fu w a (nI r) (nI k) = rc w (fo (fun j => w 8 1 (30 + 8 * r + j)) d k a) (nI (r + 1)) := by
  intro d
  induction d with
  | zero =>
    intro k fu a h1 h2 h3
    obtain ⟨fu, rfl⟩ : ∃ z, fu = z + 1 := ⟨fu - 1, by omega⟩
    rw [h_X10_fingerprint_39, b_X10_fingerprint_39, if_pos (by rw [lit, nI_leI (by omega) (by omega)]; omega), nI_1, fo]
  | succ d ih =>
    intro k fu a h1 h2 h3
    obtain ⟨fu, rfl⟩ : ∃ z, fu = z + 1 := ⟨fu - 1, by omega⟩
    rw [h_X10_fingerprint_39, b_X10_fingerprint_39, if_neg (by rw [lit, nI_leI (by omega) (by omega)]; omega), of_spec hr (by omega), Option.bind_some]
    dsimp only
    rw [letl, nI_1, ih (k + 1) fu _ (by omega) (by omega) (by omega), fo]
theorem m138 {w : Wd} {S s : Nat} (hS : S ≤ 8) (eS : w 8 1 0 = nI S) (hs : s < S) (rc : Wd → Int64 → Int32 → Option (Int64 × Wd)) : ∀ (d k fu : Nat) (a : Int64), S - k = d → k ≤ S → d < fu → h_X10_fingerprint_138 rc fu w a (nI s) (nI k) = rc w (fo (fun j => w 8 1 (570 + 8 * s + j)) d k a) (nI (s + 1)) := by
  intro d
  induction d with
  | zero =>
    intro k fu a h1 h2 h3
    obtain ⟨fu, rfl⟩ : ∃ z, fu = z + 1 := ⟨fu - 1, by omega⟩
    rw [h_X10_fingerprint_138, b_X10_fingerprint_138, if_pos (show ib 0 640 = true from rfl), show Int32.toNatClampNeg 0 = 0 from rfl, eS, if_pos (by rw [nI_leI (by omega) (by omega)]; omega), nI_1, fo]
  | succ d ih =>
    intro k fu a h1 h2 h3
    obtain ⟨fu, rfl⟩ : ∃ z, fu = z + 1 := ⟨fu - 1, by omega⟩
    rw [h_X10_fingerprint_138, b_X10_fingerprint_138, if_pos (show ib 0 640 = true from rfl), show Int32.toNatClampNeg 0 = 0 from rfl, eS, if_neg (by rw [nI_leI (by omega) (by omega)]; omega), lit, lit, nI_mul, nI_add, nI_add, if_pos (ibT (by omega) (by omega)), nI_clamp (by omega), letl, nI_1, ih (k + 1) fu _ (by omega) (by omega) (by omega), fo]
theorem m125 {w : Wd} {S : Nat} (hS : S ≤ 8) (eS : w 8 1 0 = nI S) : ∀ (d s fu : Nat) (a : Int64), S - s = d → s ≤ S → d < fu → h_X10_fingerprint_125 fu w a (nI s) = some (foR (fun s j => w 8 1 (570 + 8 * s + j)) S d s a, w) := by
  intro d
  induction d with
  | zero =>
    intro s fu a h1 h2 h3
    obtain ⟨fu, rfl⟩ : ∃ z, fu = z + 1 := ⟨fu - 1, by omega⟩
    rw [h_X10_fingerprint_125, b_X10_fingerprint_125, if_pos (show ib 0 640 = true from rfl), show Int32.toNatClampNeg 0 = 0 from rfl, eS, if_pos (by rw [nI_leI (by omega) (by omega)]; omega), foR]
  | succ d ih =>
    intro s fu a h1 h2 h3
    obtain ⟨fu, rfl⟩ : ∃ z, fu = z + 1 := ⟨fu - 1, by omega⟩
    rw [h_X10_fingerprint_125, b_X10_fingerprint_125, if_pos (show ib 0 640 = true from rfl), show Int32.toNatClampNeg 0 = 0 from rfl, eS, if_neg (by rw [nI_leI (by omega) (by omega)]; omega), show (0 : Int32) = nI 0 from rfl, m138 hS eS (by omega) _ S 0 FU a (by omega) (by omega) (by rw [FU_eq]; omega), ih (s + 1) fu _ (by omega) (by omega) (by omega), foR]
theorem m26 {w : Wd} {S R : Nat} (hS : S ≤ 8) (hR : R ≤ 40) (eS : w 8 1 0 = nI S) (eR : w 8 1 1 = nI R) : ∀ (d r fu : Nat) (a : Int64), R - r = d → r ≤ R → d < fu → h_X10_fingerprint_26 fu w a (nI r) = some (foR (fun s j => w 8 1 (570 + 8 * s + j)) S S 0 (31 * (31 * (31 * (31 * (foR (fun r j => w 8 1 (30 + 8 * r + j)) 8 d r a) + Int32.toInt64 (w 8 1 2)) + Int32.toInt64 (w 8 1 3)) + Int32.toInt64 (w 8 1 4)) + Int32.toInt64 (w 8 1 5)), w) := by
  intro d
  induction d with
  | zero =>
    intro r fu a h1 h2 h3
    obtain ⟨fu, rfl⟩ : ∃ z, fu = z + 1 := ⟨fu - 1, by omega⟩
    rw [h_X10_fingerprint_26, b_X10_fingerprint_26, if_pos (show ib 1 640 = true from rfl), show Int32.toNatClampNeg 1 = 1 from rfl, eR, if_pos (by rw [nI_leI (by omega) (by omega)]; omega), if_pos (show ib 2 640 = true from rfl), if_pos (show ib 3 640 = true from rfl), if_pos (show ib 4 640 = true from rfl), if_pos (show ib 5 640 = true from rfl), letl, show (0 : Int32) = nI 0 from rfl, m125 hS eS S 0 FU _ (by omega) (by omega) (by rw [FU_eq]; omega), foR]
    rfl
  | succ d ih =>
    intro r fu a h1 h2 h3
    obtain ⟨fu, rfl⟩ : ∃ z, fu = z + 1 := ⟨fu - 1, by omega⟩
    rw [h_X10_fingerprint_26, b_X10_fingerprint_26, if_pos (show ib 1 640 = true from rfl), show Int32.toNatClampNeg 1 = 1 from rfl, eR, if_neg (by rw [nI_leI (by omega) (by omega)]; omega), show (0 : Int32) = nI 0 from rfl, m39 (by omega) _ 8 0 FU a rfl (by omega) (by rw [FU_eq]; omega), ih (r + 1) fu _ (by omega) (by omega) (by omega), foR]
theorem op_fingerprint {t : Nat} {w : Wd} (H : Inv t w) : ∃ r, f_X9_fingerprint w = some (r, w) ∧ f_X10_fingerprint w = some (r, w) := by
  obtain ⟨S, R, P, hV, hC⟩ := H.now
  have hS := hV.1.1
  have hR := hV.1.2.1
  have eS8 : w 8 1 0 = nI S := hV.1.2.2.2.1
  have eR8 : w 8 1 1 = nI R := hV.1.2.2.2.2.1
  obtain ⟨c1, c2, c3, c4, c5, c6⟩ := hC.1
  refine ⟨foR (fun s j => w 8 1 (570 + 8 * s + j)) S S 0 (31 * (31 * (31 * (31 * (foR (fun r j => w 8 1 (30 + 8 * r + j)) 8 R 0 (31 * (2449 + Int32.toInt64 (w 8 1 0)) + Int32.toInt64 (w 8 1 1))) + Int32.toInt64 (w 8 1 2)) + Int32.toInt64 (w 8 1 3)) + Int32.toInt64 (w 8 1 4)) + Int32.toInt64 (w 8 1 5)), ?_, ?_⟩
  rotate_left
  · rw [f_X10_fingerprint, if_pos (show ib 0 640 = true from rfl), if_pos (show ib 1 640 = true from rfl), letl, show (0 : Int32) = nI 0 from rfl, m26 hS hR eS8 eR8 R 0 FU _ (by omega) (by omega) (by rw [FU_eq]; omega)]
    rfl
  · rw [f_X9_fingerprint, f_X6_fold, show (0 : Int32) = nI 0 from rfl, fold5 hV hC R 0 FU _ (by omega) (by omega) (by rw [FU_eq]; omega), Option.bind_some]
    dsimp only
    rw [letl, letl, letl, letl, f_X4_foldDebts, show (0 : Int32) = nI 0 from rfl, debt5 hV hC S 0 FU _ (by omega) (by omega) (by rw [FU_eq]; omega), Option.bind_some]
    dsimp only
    rw [p_X5_size, p_X4_hopLimit, p_X4_minutes, p_X0_size, p_X4_switchCount, p_X6_size, c1, c2, c3, c4, c5, c6]
