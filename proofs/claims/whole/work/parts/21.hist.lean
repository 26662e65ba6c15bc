theorem nI_div {a b : Nat} (ha : a < 2 ^ 31) (hb : b < 2 ^ 31) (h0 : 0 < b) : nI a / nI b = nI (a / b) := by
  have hd : a / b ≤ a := Nat.div_le_self a b
  rw [← Int32.toInt_inj, Int32.toInt_div, nI_toInt ha, nI_toInt hb, nI_toInt (Nat.lt_of_le_of_lt hd ha)]
  rw [show (a : Int).tdiv (b : Int) = ((a / b : Nat) : Int) from by rw [Int.tdiv_eq_ediv_of_nonneg (by omega)]; simp]
  generalize a / b = q at hd
  rw [Int.bmod_eq_of_le] <;> omega
theorem nI_rem {a b : Nat} (ha : a < 2 ^ 31) (hb : b < 2 ^ 31) (h0 : 0 < b) : nI a - nI a / nI b * nI b = nI (a % b) := by
  rw [nI_div ha hb h0, nI_mul, nI_sub (Nat.div_mul_le_self a b)]
  congr 1
  have := Nat.div_add_mod a b
  rw [Nat.mul_comm] at this
  omega
theorem nI_xor (a b : Nat) : nI a ^^^ nI b = nI (a ^^^ b) := by
  apply Int32.toBitVec_inj.mp
  show BitVec.ofNat 32 a ^^^ BitVec.ofNat 32 b = BitVec.ofNat 32 (a ^^^ b)
  apply BitVec.eq_of_toNat_eq
  simp [BitVec.toNat_xor, BitVec.toNat_ofNat]
theorem fmod_spec {a b : Nat} (w : Wd) (ha : a < 2 ^ 31) (hb : b < 2 ^ 31) (h0 : 0 < b) : f_J9_floorMod_7cf53 w (nI a) (nI b) = some (nI (a % b), w) := by
  have hx : a ^^^ b < 2 ^ 31 := Nat.xor_lt_two_pow ha hb
  have h1 : ¬ b = 0 := by omega
  rw [f_J9_floorMod_7cf53, nI_rem ha hb h0, nI_xor]
  simp (disch := omega) only [lit, if_true, if_false, nI_leI, nI_ltI, nI_eq, nI_neg, nI_neg', nI_negE, ng_lt, ng_le, ng_nlt, ng_nle, ib_nI, nI_clamp, nI_add, nI_mul, nI_sub, nI_nn, if_pos, if_neg, decide_eq_true_eq, letw, leti, letl, Option.bind_some]
theorem stateAt_spec {w : Wd} {F i : Nat} (hF : F < 5) (hi : i ≤ 5) (hw : w 7 1 1 = nI F) : f_X2_stateAt w (nI i) = some (2 + (F + i) % 5, w) := by
  have h5 : (F + i) % 5 < 5 := Nat.mod_lt _ (by omega)
  rw [f_X2_stateAt, hw, nI_add, lit, fmod_spec w (by omega) (by omega) (by omega)]
  simp (disch := omega) only [lit, if_true, if_false, nI_leI, nI_ltI, nI_eq, nI_neg, nI_neg', nI_negE, ng_lt, ng_le, ng_nlt, ng_nle, ib_nI, nI_clamp, nI_add, nI_mul, nI_sub, nI_nn, if_pos, if_neg, decide_eq_true_eq, letw, leti, letl, Option.bind_some]
def F1 (F C : Nat) : Nat := if C = 5 then (F + 1) % 5 else F
def C0 (C : Nat) : Nat := if C = 5 then 4 else C
/-- the router's history behind a push of network n -/
def Pushed (w w1 : Wd) (n : Nat) : Prop := (∀ g c, (g < 2 ∨ 7 ≤ g) → ¬ (g = 7 ∧ c = 1) → w1 g c = w g c) ∧ ∀ F C, F < 5 → C ≤ 5 → w 7 1 1 = nI F → w 7 1 2 = nI C →
  w1 7 1 1 = nI (F1 F C) ∧ w1 7 1 2 = nI (C0 C + 1) ∧ NEq (w1 (2 + (F1 F C + C0 C) % 5)) (w n) ∧ ∀ g, 2 ≤ g → g < 7 → g ≠ 2 + (F1 F C + C0 C) % 5 → w1 g = w g
theorem push_spec {n F C : Nat} {w : Wd} (hn : n < 2) (hF : F < 5) (hC : C ≤ 5) (hw1 : w 7 1 1 = nI F) (hw2 : w 7 1 2 = nI C) : ∃ w1, f_X2_push n w = some ((), w1) ∧ Pushed w w1 n := by
  have key : ∀ (w0 : Wd) (F C : Nat), F < 5 → C < 5 → w0 7 1 1 = nI F → w0 7 1 2 = nI C → ∃ w1, j_X2_push_30 n w0 = some ((), w1) ∧ (∀ g c, g ≠ 2 + (F + C) % 5 → ¬ (g = 7 ∧ c = 1) → w1 g c = w0 g c) ∧ w1 7 1 1 = nI F ∧ w1 7 1 2 = nI (C + 1) ∧ NEq (w1 (2 + (F + C) % 5)) (w0 n) := by
    intro w0 F C hF hC e1 e2
    have h5 : (F + C) % 5 < 5 := Nat.mod_lt _ (by omega)
    obtain ⟨w', c1, c2, c3⟩ := copy_spec (n := 2 + (F + C) % 5) (n2 := n) w0 (by omega)
    rw [j_X2_push_30, e2, stateAt_spec hF (by omega) e1]
    simp only [Option.bind_some, if_pos (show 2 + (F + C) % 5 < 7 by omega), c1, letw]
    have e3 : w' 7 1 = w0 7 1 := c2 7 1 (by omega)
    refine ⟨_, rfl, ?_, ?_, ?_, ?_⟩
    · intro g c hg hgc
      rw [wup_row, if_neg hgc]
      exact c2 g c hg
    · rw [wup_at, if_neg (by omega), e3]; exact e1
    · rw [wup_at, if_pos (by omega), e3, e2, lit, nI_add]
    · intro c i hr
      rw [wup_at, if_neg (by omega)]
      exact c3 c i hr
  by_cases h5 : C = 5
  · subst h5
    have hm : (F + 1) % 5 < 5 := Nat.mod_lt _ (by omega)
    have e : f_X2_push n w = j_X2_push_30 n (wup (wup w 7 1 1 (nI ((F + 1) % 5))) 7 1 2 (nI 4)) := by
      rw [f_X2_push, hw2, hw1]
      simp only [lit, nI_add, letw, if_true]
      rw [nI_rem (by omega) (by omega) (by omega), wup_at, if_neg (by omega), hw2, nI_sub (by omega)]
    obtain ⟨w1, k1, k2, k3, k4, k5⟩ := key (wup (wup w 7 1 1 (nI ((F + 1) % 5))) 7 1 2 (nI 4)) ((F + 1) % 5) 4 hm (by omega) (by simp [wup_at]) (by simp [wup_at])
    refine ⟨w1, e.trans k1, ?_, ?_⟩
    · intro g c hg hgc
      rw [k2 g c (by omega) hgc, wup_row, if_neg hgc, wup_row, if_neg hgc]
    · intro F' C' hF' hC' q1 q2
      have : F' = F := (nI_eq (by omega) (by omega)).mp (q1.symm.trans hw1)
      subst this
      have : C' = 5 := (nI_eq (by omega) (by omega)).mp (q2.symm.trans hw2)
      subst this
      refine ⟨k3, k4, ?_, ?_⟩
      · intro c i hr
        have := k5 c i hr
        rw [wup_at, if_neg (by omega), wup_at, if_neg (by omega)] at this
        exact this
      · intro g h2 h7 hne
        funext c
        rw [k2 g c hne (by omega), wup_row, if_neg (by omega), wup_row, if_neg (by omega)]
  · have e : f_X2_push n w = j_X2_push_30 n w := by
      rw [f_X2_push, hw2]
      simp (disch := omega) only [lit, if_true, if_false, nI_leI, nI_ltI, nI_eq, nI_neg, nI_neg', nI_negE, ng_lt, ng_le, ng_nlt, ng_nle, ib_nI, nI_clamp, nI_add, nI_mul, nI_sub, nI_nn, if_pos, if_neg, decide_eq_true_eq, letw, leti, letl, Option.bind_some]
    obtain ⟨w1, k1, k2, k3, k4, k5⟩ := key w F C hF (by omega) hw1 hw2
    refine ⟨w1, e.trans k1, ?_, ?_⟩
    · intro g c hg hgc
      exact k2 g c (by have : (F + C) % 5 < 5 := Nat.mod_lt _ (by omega); omega) hgc
    · intro F' C' hF' hC' q1 q2
      have : F' = F := (nI_eq (by omega) (by omega)).mp (q1.symm.trans hw1)
      subst this
      have : C' = C := (nI_eq (by omega) (by omega)).mp (q2.symm.trans hw2)
      subst this
      simp only [F1, C0, h5, if_false]
      exact ⟨k3, k4, k5, fun g h2 h7 hne => funext fun c => k2 g c hne (by omega)⟩
/-- the model's history behind keeps -/
def Kept (w w2 : Wd) (c2 : Nat) : Prop := (∀ g c, ¬ (g = 8 ∧ (c = 3 ∨ c = 0)) → w2 g c = w g c) ∧ (∀ i, i ≠ 3 → w2 8 0 i = w 8 0 i) ∧ ∀ C, C ≤ 5 → w 8 0 3 = nI C →
  w2 8 0 3 = nI (C0 C + 1) ∧ (∀ i j, j < 640 → i < C0 C → w2 8 3 (640 * i + j) = w 8 3 (640 * (if C = 5 then i + 1 else i) + j)) ∧ (∀ j, j < 640 → w2 8 3 (640 * C0 C + j) = w 8 c2 j)
theorem kept_spec {c2 C : Nat} {w : Wd} (hc : c2 ≠ 3) (hc0 : c2 ≠ 0) (hC : C ≤ 5) (hw : w 8 0 3 = nI C) : ∃ w2, f_X10_keeps c2 w = some ((), w2) ∧ Kept w w2 c2 := by
  obtain ⟨w', k1, k2, k3, k4, k5, k6⟩ := keeps_spec c2 C hc hc0 hC w hw
  refine ⟨w', k1, k2, k3, ?_⟩
  intro C' hC' q
  have : C' = C := (nI_eq (by omega) (by omega)).mp (q.symm.trans hw)
  subst this
  refine ⟨?_, k5, k6⟩
  rw [k4]
  congr 1
  unfold C0
  split <;> rfl
/-- both histories together: the state that the network n and the row c2 had -/
theorem hist_push {t n c2 : Nat} {w w1 w1' w2 w3 : Wd} (H : HR t w) (hnr : NR t (w n) (w 8 c2)) (hp : Pushed w w1 n) (hk : Kept w1' w2 c2) (e1 : w1' 8 0 3 = w 8 0 3) (e2 : w1' 8 3 = w 8 3) (e3 : w1' 8 c2 = w 8 c2) (e4 : ∀ g, 2 ≤ g → g < 7 → w3 g = w1 g) (e5 : w3 7 1 1 = w1 7 1 1) (e6 : w3 7 1 2 = w1 7 1 2) (e7 : w3 8 0 3 = w2 8 0 3) (e8 : w3 8 3 = w2 8 3) : HR t w3 := by
  obtain ⟨F, C, hF, hC, h1, h2, h3, h4⟩ := H
  obtain ⟨p1, p2, p3, p4⟩ := hp.2 F C hF hC h1 h2
  obtain ⟨k1, k2, k3⟩ := hk.2.2 C hC (e1.trans h3)
  have hF1 : F1 F C < 5 := by
    unfold F1
    split
    · exact Nat.mod_lt _ (by omega)
    · exact hF
  have hC0 : C0 C ≤ 4 := by unfold C0; split <;> omega
  refine ⟨F1 F C, C0 C + 1, hF1, by omega, by rw [e5]; exact p1, by rw [e6]; exact p2, by rw [e7]; exact k1, ?_⟩
  intro i hi
  have hm : (F1 F C + i) % 5 < 5 := Nat.mod_lt _ (by omega)
  rw [e4 _ (by omega) (by omega), e8]
  by_cases hic : i = C0 C
  · subst hic
    exact hnr.congr p3 (fun j hj => by rw [k3 j hj, e3])
  · have hne : (F1 F C + i) % 5 ≠ (F1 F C + C0 C) % 5 := by omega
    rw [p4 _ (by omega) (by omega) (by omega)]
    by_cases h5 : C = 5
    · subst h5
      have hx := h4 (i + 1) (by simp only [C0, if_true] at hi hic; omega)
      have e : (F1 F 5 + i) % 5 = (F + (i + 1)) % 5 := by simp only [F1, if_true]; omega
      rw [e]
      exact hx.congr NEq.rfl' (fun j hj => by rw [k2 i j hj (by omega), e2]; simp only [if_true])
    · have hx := h4 i (by simp only [C0, h5, if_false] at hi hic; omega)
      have e : F1 F C = F := by simp only [F1, h5, if_false]
      rw [e]
      exact hx.congr NEq.rfl' (fun j hj => by rw [k2 i j hj (by omega), e2]; simp only [h5, if_false])
/-! undo -/
theorem undo_loop (P : Nat) (hP : P < 5) : ∀ (d k fu : Nat) (w : Wd), w 8 0 3 = nI P → 640 - k = d → k ≤ 640 → d < fu → h_X10_undo_22 fu w (nI k) = some (nI P, wr w 8 1 (fun j => if k ≤ j ∧ j < 640 then w 8 3 (640 * P + j) else w 8 1 j)) := by
  intro d
  induction d with
  | zero =>
    intro k fu w hw h1 h2 h3
    obtain ⟨fu, rfl⟩ : ∃ z, fu = z + 1 := ⟨fu - 1, by omega⟩
    rw [h_X10_undo_22, b_X10_undo_22, hw]
    simp (disch := omega) only [lit, if_true, if_false, nI_leI, nI_ltI, nI_eq, nI_neg, nI_neg', nI_negE, ng_lt, ng_le, ng_nlt, ng_nle, ib_nI, nI_clamp, nI_add, nI_mul, nI_sub, nI_nn, if_pos, if_neg, decide_eq_true_eq, letw, leti, letl, Option.bind_some]
    rw [show (fun j => w 8 1 j) = w 8 1 from rfl, wr_self]
  | succ d ih =>
    intro k fu w hw h1 h2 h3
    obtain ⟨fu, rfl⟩ : ∃ z, fu = z + 1 := ⟨fu - 1, by omega⟩
    rw [h_X10_undo_22, b_X10_undo_22, hw]
    simp (disch := omega) only [lit, if_true, if_false, nI_leI, nI_ltI, nI_eq, nI_neg, nI_neg', nI_negE, ng_lt, ng_le, ng_nlt, ng_nle, ib_nI, nI_clamp, nI_add, nI_mul, nI_sub, nI_nn, if_pos, if_neg, decide_eq_true_eq, letw, leti, letl, Option.bind_some]
    rw [ih (k + 1) fu _ (by rw [wup_at, if_neg (by omega)]; exact hw) (by omega) (by omega) (by omega), wr_wup]
    congr 3
    funext i
    simp only [wup_row, wr_at, upd_at, and_self, if_true]
    by_cases h5 : i = k
    · subst h5
      simp
      omega
    · by_cases h6 : k + 1 ≤ i ∧ i < 640
      · rw [if_pos h6, if_pos (show k ≤ i ∧ i < 640 by omega)]
        simp
      · rw [if_neg h6, if_neg h5, if_neg (by omega)]
