/-! numbers, worlds -/
theorem wr_at (w : Wd) (g c : Nat) (r : Nat → Int32) (g' c' : Nat) : wr w g c r g' c' = if g' = g ∧ c' = c then r else w g' c' := rfl
theorem wup_at (w : Wd) (g c i : Nat) (v : Int32) (g' c' i' : Nat) : wup w g c i v g' c' i' = if g' = g ∧ c' = c ∧ i' = i then v else w g' c' i' := by
  unfold wup wr upd
  by_cases h : g' = g ∧ c' = c
  · obtain ⟨rfl, rfl⟩ := h
    simp
  · rw [if_neg h]
    rw [if_neg (fun q => h ⟨q.1, q.2.1⟩)]
theorem wup_row (w : Wd) (g c i : Nat) (v : Int32) (g' c' : Nat) : wup w g c i v g' c' = if g' = g ∧ c' = c then upd (w g c) i v else w g' c' := rfl
theorem wcp_row (w : Wd) (g0 c0 g c sp dp n : Nat) (g' c' : Nat) : wcp w g0 c0 g c sp dp n g' c' = if g' = g ∧ c' = c then va_cpy (w g0 c0) (w g c) sp dp n else w g' c' := rfl
theorem wcp_at (w : Wd) (g0 c0 g c n : Nat) (g' c' i' : Nat) : wcp w g0 c0 g c 0 0 n g' c' i' = if g' = g ∧ c' = c ∧ i' < n then w g0 c0 i' else w g' c' i' := by
  rw [wcp_row]
  by_cases h : g' = g ∧ c' = c
  · obtain ⟨rfl, rfl⟩ := h
    simp [va_cpy]
  · rw [if_neg h, if_neg (fun q => h ⟨q.1, q.2.1⟩)]
theorem upd_at (f : Nat → Int32) (k : Nat) (x : Int32) (j : Nat) : upd f k x j = if j = k then x else f j := rfl
theorem lit (n : Nat) : @OfNat.ofNat Int32 n Int32.instOfNat = nI (@OfNat.ofNat Nat n (instOfNatNat n)) := id rfl
theorem nI_mul (a b : Nat) : nI a * nI b = nI (a * b) := (Int32.ofNat_mul a b).symm
theorem nI_sub {a b : Nat} (h : b ≤ a) : nI a - nI b = nI (a - b) := by
  have e : nI a = nI (a - b) + nI b := by rw [nI_add]; congr 1; omega
  rw [e, Int32.add_sub_cancel]
theorem ib_nI {k n : Nat} (hk : k < 2 ^ 31) : ib (nI k) n = decide (k < n) := by
  unfold ib
  rw [nI_clamp hk]
  by_cases h : k < n
  · have h2 := nI_pos hk
    simp [h, h2]
  · simp [h]
theorem nI_toInt_neg {m : Nat} (hm2 : m < 2 ^ 31) : (- nI m).toInt = -(m : Int) := by
  rw [Int32.toInt_neg, nI_toInt hm2]
  rw [Int.bmod_eq_of_le] <;> omega
theorem nI_neg {k m : Nat} (hk : k < 2 ^ 31) (hm : 0 < m) (hm2 : m < 2 ^ 31) : (nI k = - nI m) = False := by
  rw [← Int32.toInt_inj, nI_toInt hk, nI_toInt_neg hm2]
  simp
  omega
theorem nI_neg' {k m : Nat} (hk : k < 2 ^ 31) (hm : 0 < m) (hm2 : m < 2 ^ 31) : (- nI m = nI k) = False := by
  rw [show (- nI m = nI k) = (nI k = - nI m) from propext ⟨Eq.symm, Eq.symm⟩]
  exact nI_neg hk hm hm2
theorem nI_negE {k m : Nat} (hk : k < 2 ^ 31) (hm2 : m < 2 ^ 31) : (- nI m = - nI k) = (m = k) := by
  rw [← Int32.toInt_inj, nI_toInt_neg hk, nI_toInt_neg hm2]
  apply propext
  omega
theorem ng_lt {a m : Nat} (ha : a < 2 ^ 31) (hm : 0 < m) (hm2 : m < 2 ^ 31) : (- nI m < nI a) = True := by
  rw [Int32.lt_iff_toInt_lt, nI_toInt ha, nI_toInt_neg hm2]
  apply eq_true
  omega
theorem ng_le {a m : Nat} (ha : a < 2 ^ 31) (hm2 : m < 2 ^ 31) : (- nI m ≤ nI a) = True := by
  rw [Int32.le_iff_toInt_le, nI_toInt ha, nI_toInt_neg hm2]
  apply eq_true
  omega
theorem ng_nlt {a m : Nat} (ha : a < 2 ^ 31) (hm2 : m < 2 ^ 31) : (nI a < - nI m) = False := by
  rw [Int32.lt_iff_toInt_lt, nI_toInt ha, nI_toInt_neg hm2]
  apply eq_false
  omega
theorem ng_nle {a m : Nat} (ha : a < 2 ^ 31) (hm : 0 < m) (hm2 : m < 2 ^ 31) : (nI a ≤ - nI m) = False := by
  rw [Int32.le_iff_toInt_le, nI_toInt ha, nI_toInt_neg hm2]
  apply eq_false
  omega
theorem nI_nn {a m : Nat} (h : m ≤ a) : nI a + - nI m = nI (a - m) := by
  rw [← nI_sub h, Int32.sub_eq_add_neg]
/-! the entries of a network that count -/
def rel (c i : Nat) : Prop := match c with
  | 0 => 5 ≤ i ∧ i ≤ 8
  | 1 => i < 8
  | 2 => i < 64
  | 3 => i = 6
  | 4 => i < 40
  | 5 => i < 40
  | 6 => i < 40
  | 7 => i < 120
  | 8 => i < 40
  | 9 => i < 40
  | 10 => i = 2
  | 11 => i < 30
  | 12 => i < 30
  | 13 => i = 4
  | 14 => i < 10
  | 15 => i < 10
  | 16 => i < 10
  | 17 => i < 60
  | _ => False
def NEq (N N' : Nat → Nat → Int32) : Prop := ∀ c i, rel c i → N c i = N' c i
theorem copy_spec {n n2 : Nat} (w : Wd) (hne : n2 ≠ n) : ∃ w', f_X4_copyFrom n n2 w = some ((), w') ∧ (∀ g c, g ≠ n → w' g c = w g c) ∧ NEq (w' n) (w n2) := by
  refine ⟨_, rfl, ?_, ?_⟩
  · intro g c hg
    funext i
    simp only [f_X6_copyFrom, f_X5_copyFrom, f_X0_copyFrom, letw, wup_at, wcp_at, hg, false_and, if_false]
  · intro c i h
    match c, h with
    | 0, h =>
      have : i = 5 ∨ i = 6 ∨ i = 7 ∨ i = 8 := by simp only [rel] at h; omega
      rcases this with rfl | rfl | rfl | rfl <;> simp [wup_at, wcp_at, hne]
    | 1, h => simp only [rel] at h; simp [wup_at, wcp_at, hne, h]
    | 2, h => simp only [rel] at h; simp [wup_at, wcp_at, hne, h]
    | 3, h => simp only [rel] at h; subst h; simp [wup_at, wcp_at, hne]
    | 4, h => simp only [rel] at h; simp [wup_at, wcp_at, hne, h]
    | 5, h => simp only [rel] at h; simp [wup_at, wcp_at, hne, h]
    | 6, h => simp only [rel] at h; simp [wup_at, wcp_at, hne, h]
    | 7, h => simp only [rel] at h; simp [wup_at, wcp_at, hne, h]
    | 8, h => simp only [rel] at h; simp [wup_at, wcp_at, hne, h]
    | 9, h => simp only [rel] at h; simp [wup_at, wcp_at, hne, h]
    | 10, h => simp only [rel] at h; subst h; simp [wup_at, wcp_at, hne]
    | 11, h => simp only [rel] at h; simp [wup_at, wcp_at, hne, h]
    | 12, h => simp only [rel] at h; simp [wup_at, wcp_at, hne, h]
    | 13, h => simp only [rel] at h; subst h; simp [wup_at, wcp_at, hne]
    | 14, h => simp only [rel] at h; simp [wup_at, wcp_at, hne, h]
    | 15, h => simp only [rel] at h; simp [wup_at, wcp_at, hne, h]
    | 16, h => simp only [rel] at h; simp [wup_at, wcp_at, hne, h]
    | 17, h => simp only [rel] at h; simp [wup_at, wcp_at, hne, h]
    | n + 18, h => exact h.elim
theorem wd_ext {w w' : Wd} (h : ∀ g c i, w g c i = w' g c i) : w = w' := funext fun g => funext fun c => funext fun i => h g c i
theorem wr_self (w : Wd) (g c : Nat) : wr w g c (w g c) = w := by
  apply wd_ext
  intro g' c' i
  rw [wr_at]
  split
  · rename_i h; rw [h.1, h.2]
  · rfl
theorem wr_wr (w : Wd) (g c : Nat) (r r' : Nat → Int32) : wr (wr w g c r) g c r' = wr w g c r' := by
  apply wd_ext
  intro g' c' i
  rw [wr_at, wr_at, wr_at]
  split <;> rfl
theorem wr_wup (w : Wd) (g c i : Nat) (v : Int32) (r : Nat → Int32) : wr (wup w g c i v) g c r = wr w g c r := wr_wr w g c _ r
/-! the model's copying loops: a row is filled from place k on -/
theorem copies_loop (c2 c3 : Nat) (hc : c2 ≠ c3) : ∀ (d k fu : Nat) (w : Wd), 640 - k = d → k ≤ 640 → d < fu → h_X10_copies_2 c2 c3 fu w (nI k) = some ((), wr w 8 c3 (fun j => if k ≤ j ∧ j < 640 then w 8 c2 j else w 8 c3 j)) := by
  intro d
  induction d with
  | zero =>
    intro k fu w h1 h2 h3
    obtain ⟨fu, rfl⟩ : ∃ z, fu = z + 1 := ⟨fu - 1, by omega⟩
    rw [h_X10_copies_2, b_X10_copies_2]
    simp (disch := omega) only [lit, if_true, if_false, nI_leI, nI_ltI, nI_eq, nI_neg, nI_neg', nI_negE, ng_lt, ng_le, ng_nlt, ng_nle, ib_nI, nI_clamp, nI_add, nI_mul, nI_sub, nI_nn, if_pos, if_neg, decide_eq_true_eq, letw, leti, letl, Option.bind_some]
    exact congrArg (fun x => some ((), x)) (wr_self w 8 c3).symm
  | succ d ih =>
    intro k fu w h1 h2 h3
    obtain ⟨fu, rfl⟩ : ∃ z, fu = z + 1 := ⟨fu - 1, by omega⟩
    rw [h_X10_copies_2, b_X10_copies_2]
    simp (disch := omega) only [lit, if_true, if_false, nI_leI, nI_ltI, nI_eq, nI_neg, nI_neg', nI_negE, ng_lt, ng_le, ng_nlt, ng_nle, ib_nI, nI_clamp, nI_add, nI_mul, nI_sub, nI_nn, if_pos, if_neg, decide_eq_true_eq, letw, leti, letl, Option.bind_some]
    rw [ih (k + 1) fu _ (by omega) (by omega) (by omega), wr_wup]
    congr 3
    funext i
    simp only [wup_row, wr_at, upd_at, hc, and_false, if_false, and_self, if_true]
    by_cases h5 : i = k
    · subst h5
      rw [if_neg (by omega), if_pos rfl, if_pos (by omega)]
    · by_cases h6 : k + 1 ≤ i ∧ i < 640
      · rw [if_pos h6, if_pos (by omega)]
      · rw [if_neg h6, if_neg h5, if_neg (by omega)]
theorem copies_spec (c2 c3 : Nat) (hc : c2 ≠ c3) (w : Wd) : f_X10_copies c2 c3 w = some ((), wr w 8 c3 (fun j => if j < 640 then w 8 c2 j else w 8 c3 j)) := by
  rw [f_X10_copies, show (0 : Int32) = nI 0 from rfl, copies_loop c2 c3 hc 640 0 FU w rfl (by omega) (by rw [FU_eq]; omega)]
  simp only [Nat.zero_le, true_and]
theorem keeps51_loop (c2 : Nat) (hc : c2 ≠ 3) (P : Nat) (hP : P < 5) : ∀ (d k fu : Nat) (w : Wd), w 8 0 3 = nI P → 640 - k = d → k ≤ 640 → d < fu → h_X10_keeps_51 c2 fu w (nI k) = some ((), wup (wr w 8 3 (fun j => if 640 * P + k ≤ j ∧ j < 640 * P + 640 then w 8 c2 (j - 640 * P) else w 8 3 j)) 8 0 3 (nI (P + 1))) := by
  intro d
  induction d with
  | zero =>
    intro k fu w hw h1 h2 h3
    obtain ⟨fu, rfl⟩ : ∃ z, fu = z + 1 := ⟨fu - 1, by omega⟩
    rw [h_X10_keeps_51, b_X10_keeps_51, hw]
    simp (disch := omega) only [lit, if_true, if_false, nI_leI, nI_ltI, nI_eq, nI_neg, nI_neg', nI_negE, ng_lt, ng_le, ng_nlt, ng_nle, ib_nI, nI_clamp, nI_add, nI_mul, nI_sub, nI_nn, if_pos, if_neg, decide_eq_true_eq, letw, leti, letl, Option.bind_some]
    rw [show (fun j => w 8 3 j) = w 8 3 from rfl, wr_self]
  | succ d ih =>
    intro k fu w hw h1 h2 h3
    obtain ⟨fu, rfl⟩ : ∃ z, fu = z + 1 := ⟨fu - 1, by omega⟩
    rw [h_X10_keeps_51, b_X10_keeps_51, hw]
    simp (disch := omega) only [lit, if_true, if_false, nI_leI, nI_ltI, nI_eq, nI_neg, nI_neg', nI_negE, ng_lt, ng_le, ng_nlt, ng_nle, ib_nI, nI_clamp, nI_add, nI_mul, nI_sub, nI_nn, if_pos, if_neg, decide_eq_true_eq, letw, leti, letl, Option.bind_some]
    rw [ih (k + 1) fu _ (by rw [wup_at, if_neg (by omega)]; exact hw) (by omega) (by omega) (by omega), wr_wup]
    congr 4
    funext i
    simp only [wup_row, wr_at, upd_at, hc, and_false, if_false, and_self, if_true]
    by_cases h5 : i = 640 * P + k
    · subst h5
      rw [if_neg (by omega), if_pos rfl, if_pos (by omega)]
      congr 1
      omega
    · by_cases h6 : 640 * P + (k + 1) ≤ i ∧ i < 640 * P + 640
      · rw [if_pos h6, if_pos (by omega)]
      · rw [if_neg h6, if_neg h5, if_neg (by omega)]
theorem keeps10_loop (c2 : Nat) : ∀ (d k fu : Nat) (w : Wd), w 8 0 3 = nI 5 → 2560 - k = d → k ≤ 2560 → d < fu → h_X10_keeps_10 c2 fu w (nI k) = h_X10_keeps_51 c2 FU (wup (wr w 8 3 (fun j => if k ≤ j ∧ j < 2560 then w 8 3 (j + 640) else w 8 3 j)) 8 0 3 (nI 4)) 0 := by
  intro d
  induction d with
  | zero =>
    intro k fu w hw h1 h2 h3
    obtain ⟨fu, rfl⟩ : ∃ z, fu = z + 1 := ⟨fu - 1, by omega⟩
    rw [h_X10_keeps_10, b_X10_keeps_10, hw]
    simp (disch := omega) only [lit, if_true, if_false, nI_leI, nI_ltI, nI_eq, nI_neg, nI_neg', nI_negE, ng_lt, ng_le, ng_nlt, ng_nle, ib_nI, nI_clamp, nI_add, nI_mul, nI_sub, nI_nn, if_pos, if_neg, decide_eq_true_eq, letw, leti, letl, Option.bind_some]
    rw [show (fun j => w 8 3 j) = w 8 3 from rfl, wr_self]
  | succ d ih =>
    intro k fu w hw h1 h2 h3
    obtain ⟨fu, rfl⟩ : ∃ z, fu = z + 1 := ⟨fu - 1, by omega⟩
    rw [h_X10_keeps_10, b_X10_keeps_10]
    simp (disch := omega) only [lit, if_true, if_false, nI_leI, nI_ltI, nI_eq, nI_neg, nI_neg', nI_negE, ng_lt, ng_le, ng_nlt, ng_nle, ib_nI, nI_clamp, nI_add, nI_mul, nI_sub, nI_nn, if_pos, if_neg, decide_eq_true_eq, letw, leti, letl, Option.bind_some]
    rw [ih (k + 1) fu _ (by rw [wup_at, if_neg (by omega)]; exact hw) (by omega) (by omega) (by omega), wr_wup, lit]
    congr 4
    funext i
    simp only [wup_row, wr_at, upd_at, and_self, if_true]
    by_cases h5 : i = k
    · subst h5
      rw [if_neg (by omega), if_pos rfl, if_pos (by omega)]
    · by_cases h6 : k + 1 ≤ i ∧ i < 2560
      · simp (disch := omega) only [lit, if_true, if_false, nI_leI, nI_ltI, nI_eq, nI_neg, nI_neg', nI_negE, ng_lt, ng_le, ng_nlt, ng_nle, ib_nI, nI_clamp, nI_add, nI_mul, nI_sub, nI_nn, if_pos, if_neg, decide_eq_true_eq, letw, leti, letl, Option.bind_some]
      · rw [if_neg h6, if_neg h5, if_neg (by omega)]
theorem keeps_spec (c2 C : Nat) (hc : c2 ≠ 3) (hc0 : c2 ≠ 0) (hC : C ≤ 5) (w : Wd) (hw : w 8 0 3 = nI C) : ∃ w', f_X10_keeps c2 w = some ((), w') ∧ (∀ g c, ¬ (g = 8 ∧ (c = 3 ∨ c = 0)) → w' g c = w g c) ∧ (∀ i, i ≠ 3 → w' 8 0 i = w 8 0 i) ∧
    w' 8 0 3 = nI (if C = 5 then 5 else C + 1) ∧ (∀ i j, j < 640 → i < (if C = 5 then 4 else C) → w' 8 3 (640 * i + j) = w 8 3 (640 * (if C = 5 then i + 1 else i) + j)) ∧ (∀ j, j < 640 → w' 8 3 (640 * (if C = 5 then 4 else C) + j) = w 8 c2 j) := by
  by_cases h5 : C = 5
  · subst h5
    have h51 := keeps51_loop c2 hc 4 (by omega) 640 0 FU (wup (wr w 8 3 (fun j => if 0 ≤ j ∧ j < 2560 then w 8 3 (j + 640) else w 8 3 j)) 8 0 3 (nI 4)) (by rw [wup_at]; simp) rfl (by omega) (by rw [FU_eq]; omega)
    have hf : f_X10_keeps c2 w = h_X10_keeps_51 c2 FU (wup (wr w 8 3 (fun j => if 0 ≤ j ∧ j < 2560 then w 8 3 (j + 640) else w 8 3 j)) 8 0 3 (nI 4)) (nI 0) := by
      rw [f_X10_keeps, hw]
      simp (disch := omega) only [lit, if_true, if_false, nI_leI, nI_ltI, nI_eq, nI_neg, nI_neg', nI_negE, ng_lt, ng_le, ng_nlt, ng_nle, ib_nI, nI_clamp, nI_add, nI_mul, nI_sub, nI_nn, if_pos, if_neg, decide_eq_true_eq, letw, leti, letl, Option.bind_some]
      rw [keeps10_loop c2 2560 0 FU w hw rfl (by omega) (by rw [FU_eq]; omega)]
      rfl
    refine ⟨_, hf.trans h51, ?_, ?_, ?_, ?_, ?_⟩
    · intro g c hn
      have h1 : ¬ (g = 8 ∧ c = 0) := fun q => hn ⟨q.1, Or.inr q.2⟩
      have h2 : ¬ (g = 8 ∧ c = 3) := fun q => hn ⟨q.1, Or.inl q.2⟩
      simp only [wup_row, wr_at, h1, h2, if_false]
    · intro i hi
      simp [wup_row, wr_at, upd_at, hi]
    · simp [wup_row, upd_at]
    · intro i j hj hi
      simp only [if_true] at hi ⊢
      simp only [wup_row, wr_at]
      simp (disch := omega) only [lit, if_true, if_false, nI_leI, nI_ltI, nI_eq, nI_neg, nI_neg', nI_negE, ng_lt, ng_le, ng_nlt, ng_nle, ib_nI, nI_clamp, nI_add, nI_mul, nI_sub, nI_nn, if_pos, if_neg, decide_eq_true_eq, letw, leti, letl, Option.bind_some, and_true, true_and, and_self, false_and, and_false, if_true, if_false]
      congr 1
      omega
    · intro j hj
      simp only [wup_row, wr_at, if_true, and_self, hc, hc0, and_false, if_false]
      simp (disch := omega) only [lit, if_true, if_false, nI_leI, nI_ltI, nI_eq, nI_neg, nI_neg', nI_negE, ng_lt, ng_le, ng_nlt, ng_nle, ib_nI, nI_clamp, nI_add, nI_mul, nI_sub, nI_nn, if_pos, if_neg, decide_eq_true_eq, letw, leti, letl, Option.bind_some, and_false, if_false, and_self, if_true]
      rw [show 640 * 4 + j - 640 * 4 = j from by omega]
  · have h51 := keeps51_loop c2 hc C (by omega) 640 0 FU w hw rfl (by omega) (by rw [FU_eq]; omega)
    have hf : f_X10_keeps c2 w = h_X10_keeps_51 c2 FU w (nI 0) := by
      rw [f_X10_keeps, hw]
      simp (disch := omega) only [lit, if_true, if_false, nI_leI, nI_ltI, nI_eq, nI_neg, nI_neg', nI_negE, ng_lt, ng_le, ng_nlt, ng_nle, ib_nI, nI_clamp, nI_add, nI_mul, nI_sub, nI_nn, if_pos, if_neg, decide_eq_true_eq, letw, leti, letl, Option.bind_some]
    simp only [h5, if_false]
    refine ⟨_, hf.trans h51, ?_, ?_, ?_, ?_, ?_⟩
    · intro g c hn
      have h1 : ¬ (g = 8 ∧ c = 0) := fun q => hn ⟨q.1, Or.inr q.2⟩
      have h2 : ¬ (g = 8 ∧ c = 3) := fun q => hn ⟨q.1, Or.inl q.2⟩
      simp only [wup_row, wr_at, h1, h2, if_false]
    · intro i hi
      simp [wup_row, wr_at, upd_at, hi]
    · simp [wup_row, upd_at]
    · intro i j hj hi
      simp only [wup_row, wr_at]
      simp
      omega
    · intro j hj
      simp only [wup_row, wr_at]
      simp
      omega
/-! what a row says, and what a network has of it -/
def RtOK (t S : Nat) (a : Nat → Int32) : Prop := ∃ (o p x l : Nat) (k : Int) (c : Nat → Nat), o < S ∧ p ≤ 999999999 ∧ x < S ∧ l ≤ 20 ∧ -(6 * t : Int) ≤ k ∧ k ≤ l ∧ (∀ b, b < 3 → c b ≤ 1000) ∧ a 0 = nI o ∧ a 1 = nI p ∧ a 2 = nI x ∧ (∀ b, b < 3 → a (3 + b) = nI (c b)) ∧ a 6 = nI l ∧ a 7 = Int32.ofInt k
def PtOK (S : Nat) (a : Nat → Int32) : Prop := ∃ n q : Nat, 1 ≤ n ∧ n ≤ 999999999 ∧ q < S ∧ a 0 = nI n ∧ a 1 = nI q
def bandN (T : Nat) : Nat := if 7200 ≤ T % 10080 then 2 else if 480 ≤ T % 10080 % 1440 ∧ T % 10080 % 1440 ≤ 1199 then 0 else 1
def ClOK (R : Nat) (a : Nat → Int32) : Prop := a 0 = nI 0 ∨ (a 0 = nI 1 ∧ ∃ n st len : Nat, 1 ≤ n ∧ n ≤ 999999999 ∧ st ≤ 1000000 ∧ len ≤ 6 ∧ a 1 = nI n ∧ a 2 = nI st ∧ a 3 = nI (bandN st) ∧ a 4 = nI len ∧ ∀ k, k < len → ∃ r, r < R ∧ a (5 + k) = nI r)
def cnt (v : Nat → Int32) : Nat → Nat
  | 0 => 0
  | n + 1 => cnt v n + if v (420 + 14 * n) = nI 1 then 1 else 0
def Vd (t : Nat) (v : Nat → Int32) (S R P : Nat) : Prop :=
  (S ≤ 8 ∧ R ≤ 40 ∧ P ≤ 30 ∧ v 0 = nI S ∧ v 1 = nI R ∧ v 2 = nI P) ∧ (∃ L, 1 ≤ L ∧ L ≤ 6 ∧ v 3 = nI L) ∧ (∃ T, T ≤ 1000000 ∧ v 4 = nI T) ∧ v 5 = nI (cnt v 10) ∧
  (∀ s, s < S → v (10 + s) = nI 0 ∨ v (10 + s) = nI 1) ∧ (∀ s, s < S → ∃ c, c ≤ 62 ∧ c % 2 = 0 ∧ v (18 + s) = nI c) ∧
  (∀ r, r < R → RtOK t S (fun j => v (30 + 8 * r + j))) ∧ (∀ k, k < P → PtOK S (fun j => v (350 + 2 * k + j))) ∧ (∀ p, p < 10 → ClOK R (fun j => v (420 + 14 * p + j)))
def Cp (N : Nat → Nat → Int32) (v : Nat → Int32) (S R P : Nat) : Prop :=
  (N 0 5 = v 0 ∧ N 3 6 = v 1 ∧ N 10 2 = v 2 ∧ N 0 7 = v 3 ∧ N 0 8 = v 4 ∧ N 13 4 = v 5) ∧
  (∃ L, L < 256 ∧ N 0 6 = nI L ∧ ∀ s, s < 8 → L.testBit s = decide (s < S ∧ v (10 + s) = nI 1)) ∧ (∀ s, s < S → N 1 s = v (18 + s)) ∧ (∀ k, k < 64 → N 2 k = v (570 + k)) ∧
  (∀ r, r < R → N 4 r = v (30 + 8 * r) ∧ N 5 r = v (30 + 8 * r + 1) ∧ N 6 r = v (30 + 8 * r + 2) ∧ (∀ b, b < 3 → N 7 (3 * r + b) = v (30 + 8 * r + (3 + b))) ∧ N 8 r = v (30 + 8 * r + 6) ∧ N 9 r = v (30 + 8 * r + 7)) ∧
  (∀ k, k < P → N 11 k = v (350 + 2 * k) ∧ N 12 k = v (350 + 2 * k + 1)) ∧
  (∀ p, p < 10 → (v (420 + 14 * p) = nI 0 ∧ N 14 p = nI 0) ∨ (v (420 + 14 * p) = nI 1 ∧ N 14 p = v (420 + 14 * p + 1) ∧ N 15 p = v (420 + 14 * p + 2) ∧ N 16 p = v (420 + 14 * p + 4) ∧ ∀ k, k < 6 → nI k < v (420 + 14 * p + 4) → N 17 (6 * p + k) = v (420 + 14 * p + (5 + k))))
def NR (t : Nat) (N : Nat → Nat → Int32) (v : Nat → Int32) : Prop := ∃ S R P, Vd t v S R P ∧ Cp N v S R P
theorem cnt_congr {v v' : Nat → Int32} (h : ∀ j, j < 640 → v' j = v j) : ∀ n, n ≤ 10 → cnt v' n = cnt v n
  | 0, _ => rfl
  | n + 1, hn => by rw [cnt, cnt, cnt_congr h n (by omega), h _ (by omega)]
theorem Vd.congr {t S R P : Nat} {v v' : Nat → Int32} (h : ∀ j, j < 640 → v' j = v j) (H : Vd t v S R P) : Vd t v' S R P := by
  obtain ⟨⟨a1, a2, a3, a4, a5, a6⟩, b1, b2, b3, b4, b5, b6, b7, b8⟩ := H
  refine ⟨⟨a1, a2, a3, by rw [h _ (by omega)]; exact a4, by rw [h _ (by omega)]; exact a5, by rw [h _ (by omega)]; exact a6⟩, by rw [h _ (by omega)]; exact b1, by rw [h _ (by omega)]; exact b2, by rw [h _ (by omega), cnt_congr h 10 (by omega)]; exact b3, ?_, ?_, ?_, ?_, ?_⟩
  · intro s hs; rw [h _ (by omega)]; exact b4 s hs
  · intro s hs; rw [h _ (by omega)]; exact b5 s hs
  · intro r hr
    obtain ⟨o, p, x, l, k, c, q⟩ := b6 r hr
    refine ⟨o, p, x, l, k, c, ?_⟩
    simp only at q ⊢
    rw [h _ (by omega), h _ (by omega), h _ (by omega), h _ (by omega), h _ (by omega)]
    obtain ⟨q1, q2, q3, q4, q5, q6, q7, q8, q9, q10, q11, q12⟩ := q
    exact ⟨q1, q2, q3, q4, q5, q6, q7, q8, q9, q10, fun b hb => by rw [h _ (by omega)]; exact q11 b hb, q12⟩
  · intro k hk
    obtain ⟨n, q, z⟩ := b7 k hk
    refine ⟨n, q, ?_⟩
    simp only at z ⊢
    rw [h _ (by omega), h _ (by omega)]
    exact z
  · intro p hp
    have z := b8 p hp
    unfold ClOK at z ⊢
    simp only at z ⊢
    rw [h _ (by omega)]
    rcases z with z | ⟨z, n, st, len, y1, y2, y3, y4, y5, y6, y7, y8, y9⟩
    · exact Or.inl z
    · refine Or.inr ⟨z, n, st, len, y1, y2, y3, y4, ?_, ?_, ?_, ?_, fun k hk => ?_⟩
      · rw [h _ (by omega)]; exact y5
      · rw [h _ (by omega)]; exact y6
      · rw [h _ (by omega)]; exact y7
      · rw [h _ (by omega)]; exact y8
      · obtain ⟨r, hr, e⟩ := y9 k hk
        exact ⟨r, hr, by rw [h _ (by omega)]; exact e⟩
theorem Cp.congr {S R P : Nat} {N N' : Nat → Nat → Int32} {v v' : Nat → Int32} (hS : S ≤ 8) (hR : R ≤ 40) (hP : P ≤ 30) (hN : NEq N' N) (h : ∀ j, j < 640 → v' j = v j) (H : Cp N v S R P) : Cp N' v' S R P := by
  obtain ⟨⟨a1, a2, a3, a4, a5, a6⟩, ⟨L, l1, l2, l3⟩, b1, b2, b3, b4, b5⟩ := H
  refine ⟨⟨?_, ?_, ?_, ?_, ?_, ?_⟩, ⟨L, l1, ?_, ?_⟩, ?_, ?_, ?_, ?_, ?_⟩
  · rw [h _ (by omega), hN 0 5 (by simp [rel])]; exact a1
  · rw [h _ (by omega), hN 3 6 (by simp [rel])]; exact a2
  · rw [h _ (by omega), hN 10 2 (by simp [rel])]; exact a3
  · rw [h _ (by omega), hN 0 7 (by simp [rel])]; exact a4
  · rw [h _ (by omega), hN 0 8 (by simp [rel])]; exact a5
  · rw [h _ (by omega), hN 13 4 (by simp [rel])]; exact a6
  · rw [hN 0 6 (by simp [rel])]; exact l2
  · intro s hs; rw [h _ (by omega)]; exact l3 s hs
  · intro s hs; rw [h _ (by omega), hN 1 s (show s < 8 by omega)]; exact b1 s hs
  · intro k hk; rw [h _ (by omega), hN 2 k (show k < 64 by omega)]; exact b2 k hk
  · intro r hr
    obtain ⟨q1, q2, q3, q4, q5, q6⟩ := b3 r hr
    refine ⟨?_, ?_, ?_, fun b hb => ?_, ?_, ?_⟩
    · rw [h _ (by omega), hN 4 r (show r < 40 by omega)]; exact q1
    · rw [h _ (by omega), hN 5 r (show r < 40 by omega)]; exact q2
    · rw [h _ (by omega), hN 6 r (show r < 40 by omega)]; exact q3
    · rw [h _ (by omega), hN 7 (3 * r + b) (show 3 * r + b < 120 by omega)]; exact q4 b hb
    · rw [h _ (by omega), hN 8 r (show r < 40 by omega)]; exact q5
    · rw [h _ (by omega), hN 9 r (show r < 40 by omega)]; exact q6
  · intro k hk
    obtain ⟨q1, q2⟩ := b4 k hk
    refine ⟨?_, ?_⟩
    · rw [h _ (by omega), hN 11 k (show k < 30 by omega)]; exact q1
    · rw [h _ (by omega), hN 12 k (show k < 30 by omega)]; exact q2
  · intro p hp
    rw [h _ (by omega), hN 14 p (show p < 10 by omega)]
    rcases b5 p hp with z | ⟨z1, z2, z3, z4, z5⟩
    · exact Or.inl z
    · refine Or.inr ⟨z1, ?_, ?_, ?_, fun k hk hlt => ?_⟩
      · rw [h _ (by omega)]; exact z2
      · rw [h _ (by omega), hN 15 p (show p < 10 by omega)]; exact z3
      · rw [h _ (by omega), hN 16 p (show p < 10 by omega)]; exact z4
      · rw [h _ (by omega)] at hlt
        rw [h _ (by omega), hN 17 (6 * p + k) (show 6 * p + k < 60 by omega)]
        exact z5 k hk hlt
theorem NR.congr {t : Nat} {N N' : Nat → Nat → Int32} {v v' : Nat → Int32} (hN : NEq N' N) (h : ∀ j, j < 640 → v' j = v j) (H : NR t N v) : NR t N' v' := by
  obtain ⟨S, R, P, h1, h2⟩ := H
  exact ⟨S, R, P, h1.congr h, h2.congr h1.1.1 h1.1.2.1 h1.1.2.2.1 hN h⟩
theorem NEq.rfl' {N : Nat → Nat → Int32} : NEq N N := fun _ _ _ => rfl
theorem Vd.mono {t t' S R P : Nat} {v : Nat → Int32} (ht : t ≤ t') (H : Vd t v S R P) : Vd t' v S R P := by
  obtain ⟨a, b1, b2, b3, b4, b5, b6, b7, b8⟩ := H
  refine ⟨a, b1, b2, b3, b4, b5, fun r hr => ?_, b7, b8⟩
  obtain ⟨o, p, x, l, k, c, q1, q2, q3, q4, q5, q6⟩ := b6 r hr
  exact ⟨o, p, x, l, k, c, q1, q2, q3, q4, by omega, q6⟩
theorem NR.mono {t t' : Nat} {N : Nat → Nat → Int32} {v : Nat → Int32} (ht : t ≤ t') (H : NR t N v) : NR t' N v := by
  obtain ⟨S, R, P, h1, h2⟩ := H
  exact ⟨S, R, P, h1.mono ht, h2⟩
def HR (t : Nat) (w : Wd) : Prop := ∃ F C, F < 5 ∧ C ≤ 5 ∧ w 7 1 1 = nI F ∧ w 7 1 2 = nI C ∧ w 8 0 3 = nI C ∧ ∀ i, i < C → NR t (w (2 + (F + i) % 5)) (fun j => w 8 3 (640 * i + j))
def TR (w : Wd) : Prop := ∃ L, L ≤ 80 ∧ w 7 3 7 = nI L ∧ w 8 0 19 = nI L ∧ ∀ i, i < L → ∃ c, 32 ≤ c ∧ c ≤ 126 ∧ w 7 4 i = nI c ∧ w 8 14 i = nI c
def AR' (w : Wd) : Prop := ∃ A, A ≤ 30 ∧ w 7 12 2 = nI A ∧ w 8 0 15 = nI A ∧ ∀ i, i < A → w 7 13 i = w 8 11 i ∧ w 7 14 i = w 8 12 i
def Inv (t : Nat) (w : Wd) : Prop := t ≤ 600 ∧ NR t (w 0) (w 8 1) ∧ HR t w ∧ TR w ∧ AR' w
