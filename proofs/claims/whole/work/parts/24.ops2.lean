/-- what the invariant says of now -/
theorem Inv.now {t : Nat} {w : Wd} (H : Inv t w) : ∃ S R P, Vd t (w 8 1) S R P ∧ Cp (w 0) (w 8 1) S R P := H.2.1
theorem upd_ne {f : Nat → Int32} {k j : Nat} {x : Int32} (h : j ≠ k) : upd f k x j = f j := if_neg h
theorem upd_eq {f : Nat → Int32} {k : Nat} {x : Int32} : upd f k x k = x := if_pos rfl
theorem cntA {v v' : Nat → Int32} (h : ∀ j, 420 ≤ j → j < 560 → v' j = v j) : ∀ n, n ≤ 10 → cnt v' n = cnt v n
  | 0, _ => rfl
  | n + 1, hn => by rw [cnt, cnt, cntA h n (by omega), h _ (by omega) (by omega)]
theorem rtA {t t' S S' R : Nat} {v v' : Nat → Int32} (hR : R ≤ 40) (ht : t ≤ t') (hS : S ≤ S') (h : ∀ j, 30 ≤ j → j < 350 → v' j = v j) (H : ∀ r, r < R → RtOK t S (fun j => v (30 + 8 * r + j))) : ∀ r, r < R → RtOK t' S' (fun j => v' (30 + 8 * r + j)) := by
  intro r hr
  obtain ⟨o, p, x, l, k, c, q⟩ := H r hr
  refine ⟨o, p, x, l, k, c, ?_⟩
  simp only at q ⊢
  rw [h _ (by omega) (by omega), h _ (by omega) (by omega), h _ (by omega) (by omega), h _ (by omega) (by omega), h _ (by omega) (by omega)]
  obtain ⟨q1, q2, q3, q4, q5, q6, q7, q8, q9, q10, q11, q12⟩ := q
  exact ⟨by omega, q2, by omega, q4, by omega, q6, q7, q8, q9, q10, fun b hb => by rw [h _ (by omega) (by omega)]; exact q11 b hb, q12⟩
theorem ptA {S S' P : Nat} {v v' : Nat → Int32} (hP : P ≤ 30) (hS : S ≤ S') (h : ∀ j, 350 ≤ j → j < 410 → v' j = v j) (H : ∀ k, k < P → PtOK S (fun j => v (350 + 2 * k + j))) : ∀ k, k < P → PtOK S' (fun j => v' (350 + 2 * k + j)) := by
  intro k hk
  obtain ⟨n, q, z1, z2, z3, z4, z5⟩ := H k hk
  refine ⟨n, q, z1, z2, by omega, ?_, ?_⟩
  · simp only at z4 ⊢; rw [h _ (by omega) (by omega)]; exact z4
  · simp only at z5 ⊢; rw [h _ (by omega) (by omega)]; exact z5
theorem cl1 {R R' p : Nat} {v v' : Nat → Int32} (hp : p < 10) (hR : R ≤ R') (h : ∀ j, j < 14 → v' (420 + 14 * p + j) = v (420 + 14 * p + j)) (z : ClOK R (fun j => v (420 + 14 * p + j))) : ClOK R' (fun j => v' (420 + 14 * p + j)) := by
  unfold ClOK at z ⊢
  simp only at z ⊢
  rw [h _ (by omega)]
  rcases z with z | ⟨z, n, st, len, y1, y2, y3, y4, y5, y6, y7, y8, y9⟩
  · exact Or.inl z
  · refine Or.inr ⟨z, n, st, len, y1, y2, y3, y4, ?_, ?_, ?_, ?_, fun k hk => ?_⟩
    · rw [h _ (by omega)]; exact y5
    · rw [h _ (by omega)]; exact y6
    · rw [h _ (by omega)]; exact y7
    · rw [h _ (by omega)]; exact y8
    · obtain ⟨r, hr, e⟩ := y9 k hk
      exact ⟨r, by omega, by rw [h _ (by omega)]; exact e⟩
theorem clA {R R' : Nat} {v v' : Nat → Int32} (hR : R ≤ R') (h : ∀ j, 420 ≤ j → j < 560 → v' j = v j) (H : ∀ p, p < 10 → ClOK R (fun j => v (420 + 14 * p + j))) : ∀ p, p < 10 → ClOK R' (fun j => v' (420 + 14 * p + j)) :=
  fun p hp => cl1 hp hR (fun j hj => h _ (by omega) (by omega)) (H p hp)
def cR (N : Nat → Nat → Int32) (v : Nat → Int32) (r : Nat) : Prop := N 4 r = v (30 + 8 * r) ∧ N 5 r = v (30 + 8 * r + 1) ∧ N 6 r = v (30 + 8 * r + 2) ∧ (∀ b, b < 3 → N 7 (3 * r + b) = v (30 + 8 * r + (3 + b))) ∧ N 8 r = v (30 + 8 * r + 6) ∧ N 9 r = v (30 + 8 * r + 7)
theorem cRA {N N' : Nat → Nat → Int32} {v v' : Nat → Int32} {R : Nat} (hR : R ≤ 40) (hN : ∀ c i, 4 ≤ c → c ≤ 9 → N' c i = N c i) (h : ∀ j, 30 ≤ j → j < 350 → v' j = v j) (H : ∀ r, r < R → cR N v r) : ∀ r, r < R → cR N' v' r := by
  intro r hr
  obtain ⟨q1, q2, q3, q4, q5, q6⟩ := H r hr
  refine ⟨?_, ?_, ?_, fun b hb => ?_, ?_, ?_⟩
  · rw [h _ (by omega) (by omega), hN _ _ (by omega) (by omega)]; exact q1
  · rw [h _ (by omega) (by omega), hN _ _ (by omega) (by omega)]; exact q2
  · rw [h _ (by omega) (by omega), hN _ _ (by omega) (by omega)]; exact q3
  · rw [h _ (by omega) (by omega), hN _ _ (by omega) (by omega)]; exact q4 b hb
  · rw [h _ (by omega) (by omega), hN _ _ (by omega) (by omega)]; exact q5
  · rw [h _ (by omega) (by omega), hN _ _ (by omega) (by omega)]; exact q6
theorem cPA {N N' : Nat → Nat → Int32} {v v' : Nat → Int32} {P : Nat} (hP : P ≤ 30) (hN : ∀ c i, 11 ≤ c → c ≤ 12 → N' c i = N c i) (h : ∀ j, 350 ≤ j → j < 410 → v' j = v j) (H : ∀ k, k < P → N 11 k = v (350 + 2 * k) ∧ N 12 k = v (350 + 2 * k + 1)) : ∀ k, k < P → N' 11 k = v' (350 + 2 * k) ∧ N' 12 k = v' (350 + 2 * k + 1) := by
  intro k hk
  rw [h _ (by omega) (by omega), h _ (by omega) (by omega), hN _ _ (by omega) (by omega), hN _ _ (by omega) (by omega)]
  exact H k hk
def cC (N : Nat → Nat → Int32) (v : Nat → Int32) (p : Nat) : Prop := (v (420 + 14 * p) = nI 0 ∧ N 14 p = nI 0) ∨ (v (420 + 14 * p) = nI 1 ∧ N 14 p = v (420 + 14 * p + 1) ∧ N 15 p = v (420 + 14 * p + 2) ∧ N 16 p = v (420 + 14 * p + 4) ∧ ∀ k, k < 6 → nI k < v (420 + 14 * p + 4) → N 17 (6 * p + k) = v (420 + 14 * p + (5 + k)))
theorem cC1 {N N' : Nat → Nat → Int32} {v v' : Nat → Int32} {p : Nat} (hN : N' 14 p = N 14 p ∧ N' 15 p = N 15 p ∧ N' 16 p = N 16 p ∧ ∀ k, k < 6 → N' 17 (6 * p + k) = N 17 (6 * p + k)) (h : ∀ j, j < 14 → v' (420 + 14 * p + j) = v (420 + 14 * p + j)) (H : cC N v p) : cC N' v' p := by
  obtain ⟨n1, n2, n3, n4⟩ := hN
  have h0 := h 0 (by omega)
  simp only [Nat.add_zero] at h0
  unfold cC
  rw [h0, n1, n2, n3, h 1 (by omega), h 2 (by omega), h 4 (by omega)]
  rcases H with z | ⟨z1, z2, z3, z4, z5⟩
  · exact Or.inl z
  · exact Or.inr ⟨z1, z2, z3, z4, fun k hk hlt => by rw [n4 k hk, h _ (by omega)]; exact z5 k hk hlt⟩
theorem cCA {N N' : Nat → Nat → Int32} {v v' : Nat → Int32} (hN : ∀ c i, 14 ≤ c → c ≤ 17 → N' c i = N c i) (h : ∀ j, 420 ≤ j → j < 560 → v' j = v j) (H : ∀ p, p < 10 → cC N v p) : ∀ p, p < 10 → cC N' v' p :=
  fun p hp => cC1 ⟨hN _ _ (by omega) (by omega), hN _ _ (by omega) (by omega), hN _ _ (by omega) (by omega), fun k _ => hN _ _ (by omega) (by omega)⟩ (fun j hj => h _ (by omega) (by omega)) (H p hp)
def cL (N : Nat → Nat → Int32) (v : Nat → Int32) (S : Nat) : Prop := ∃ L, L < 256 ∧ N 0 6 = nI L ∧ ∀ s, s < 8 → L.testBit s = decide (s < S ∧ v (10 + s) = nI 1)
theorem cLA {N N' : Nat → Nat → Int32} {v v' : Nat → Int32} {S : Nat} (hN : N' 0 6 = N 0 6) (h : ∀ s, s < 8 → v' (10 + s) = v (10 + s)) (H : cL N v S) : cL N' v' S := by
  obtain ⟨L, l1, l2, l3⟩ := H
  exact ⟨L, l1, hN.trans l2, fun s hs => by rw [h s hs]; exact l3 s hs⟩
/-! setLimit, pass: one number of the row -/
theorem op_setLimit {t : Nat} {w : Wd} (H : Inv t w) (x : Int32) : ∃ r w1 w2, f_X9_setLimit w x = some (r, w1) ∧ f_X10_setLimit w1 x = some (r, w2) ∧ Inv t w2 := by
  rcases rg x 1 6 with ⟨k, h1, h2, rfl⟩ | h
  · obtain ⟨w1, p1, p2, p3, p4⟩ := act_push H
    obtain ⟨w2, k1, k2, k3, k4⟩ := act_keep (wc := wup w1 0 0 7 (nI k)) H (by funext c; rw [wup_row, if_neg (by omega), p4])
    obtain ⟨S, R, P, hV, hC⟩ := H.now
    have e7 : w 0 0 7 = w 8 1 3 := hC.1.2.2.2.1
    refine ⟨w 8 1 3, wup w1 0 0 7 (nI k), wup w2 8 1 3 (nI k), ?_, ?_, ?_⟩
    · rw [f_X9_setLimit, in_same, lit, lit, in_T h1 h2 (by omega)]
      simp (disch := omega) only [lit, if_true, if_false, nI_leI, nI_ltI, nI_eq, nI_neg, nI_neg', nI_negE, ng_lt, ng_le, ng_nlt, ng_nle, ib_nI, nI_clamp, nI_add, nI_mul, nI_sub, nI_nn, if_pos, if_neg, decide_eq_true_eq, letw, leti, letl, Option.bind_some, nI_rem, f_X4_changeLimit]
      rw [p1]
      simp (disch := omega) only [lit, if_true, if_false, nI_leI, nI_ltI, nI_eq, nI_neg, nI_neg', nI_negE, ng_lt, ng_le, ng_nlt, ng_nle, ib_nI, nI_clamp, nI_add, nI_mul, nI_sub, nI_nn, if_pos, if_neg, decide_eq_true_eq, letw, leti, letl, Option.bind_some, nI_rem]
      rw [p3, e7]
    · rw [f_X10_setLimit, lit, lit, in_T h1 h2 (by omega)]
      simp (disch := omega) only [lit, if_true, if_false, nI_leI, nI_ltI, nI_eq, nI_neg, nI_neg', nI_negE, ng_lt, ng_le, ng_nlt, ng_nle, ib_nI, nI_clamp, nI_add, nI_mul, nI_sub, nI_nn, if_pos, if_neg, decide_eq_true_eq, letw, leti, letl, Option.bind_some, nI_rem, f_X10_sets]
      rw [k1]
      simp (disch := omega) only [lit, if_true, if_false, nI_leI, nI_ltI, nI_eq, nI_neg, nI_neg', nI_negE, ng_lt, ng_le, ng_nlt, ng_nle, ib_nI, nI_clamp, nI_add, nI_mul, nI_sub, nI_nn, if_pos, if_neg, decide_eq_true_eq, letw, leti, letl, Option.bind_some, nI_rem]
      rw [k3]
    · have eN : ∀ c i, wup w2 8 1 3 (nI k) 0 c i = if c = 0 ∧ i = 7 then nI k else w 0 c i := by
        intro c i
        rw [wup_row, if_neg (by omega), k4 0 (by omega), wup_at, p3]
        simp
      have eV : wup w2 8 1 3 (nI k) 8 1 = upd (w 8 1) 3 (nI k) := by rw [wup_row, if_pos (by omega), k3]
      refine act_inv H p2 (fun g c hg => by rw [wup_row, if_neg (by omega)]) k2 (fun g c hg => by rw [wup_row, if_neg hg]) (Nat.le_refl t) H.1 ⟨S, R, P, ?_, ?_⟩
      · rw [eV]
        obtain ⟨⟨a1, a2, a3, a4, a5, a6⟩, b1, b2, b3, b4, b5, b6, b7, b8⟩ := hV
        refine ⟨⟨a1, a2, a3, a4, a5, a6⟩, ⟨k, h1, h2, upd_eq⟩, b2, ?_, ?_, ?_, rtA a2 (Nat.le_refl _) (Nat.le_refl _) (fun j h1 h2 => upd_ne (by omega)) b6, ptA a3 (Nat.le_refl _) (fun j h1 h2 => upd_ne (by omega)) b7, clA (Nat.le_refl _) (fun j h1 h2 => upd_ne (by omega)) b8⟩
        · rw [cntA (fun j h1 h2 => upd_ne (by omega)) 10 (by omega)]; exact b3
        · intro s hs; rw [upd_ne (by omega)]; exact b4 s hs
        · intro s hs; rw [upd_ne (by omega)]; exact b5 s hs
      · rw [eV]
        obtain ⟨⟨a1, a2, a3, a4, a5, a6⟩, l, b1, b2, b3, b4, b5⟩ := hC
        refine ⟨⟨?_, ?_, ?_, ?_, ?_, ?_⟩, cLA ?_ (fun s hs => upd_ne (by omega)) l, ?_, ?_, cRA hV.1.2.1 (fun c i h1 h2 => ?_) (fun j h1 h2 => upd_ne (by omega)) b3, cPA hV.1.2.2.1 (fun c i h1 h2 => ?_) (fun j h1 h2 => upd_ne (by omega)) b4, cCA (fun c i h1 h2 => ?_) (fun j h1 h2 => upd_ne (by omega)) b5⟩
        · rw [eN, if_neg (by omega)]; exact a1
        · rw [eN, if_neg (by omega)]; exact a2
        · rw [eN, if_neg (by omega)]; exact a3
        · rw [eN, if_pos (by omega), upd_eq]
        · rw [eN, if_neg (by omega)]; exact a5
        · rw [eN, if_neg (by omega)]; exact a6
        · rw [eN, if_neg (by omega)]
        · intro s hs; rw [eN, if_neg (by omega), upd_ne (by have := hV.1.1; omega)]; exact b1 s hs
        · intro s hs; rw [eN, if_neg (by omega), upd_ne (by omega)]; exact b2 s hs
        · rw [eN, if_neg (by omega)]
        · rw [eN, if_neg (by omega)]
        · rw [eN, if_neg (by omega)]
  · refine ⟨-1, w, w, ?_, ?_, H⟩
    · rw [f_X9_setLimit, in_same, lit, lit, in_F (by omega) h (by omega)]
      simp (disch := omega) only [lit, if_true, if_false, nI_leI, nI_ltI, nI_eq, nI_neg, nI_neg', nI_negE, ng_lt, ng_le, ng_nlt, ng_nle, ib_nI, nI_clamp, nI_add, nI_mul, nI_sub, nI_nn, if_pos, if_neg, decide_eq_true_eq, letw, leti, letl, Option.bind_some, nI_rem]
    · rw [f_X10_setLimit, lit, lit, in_F (by omega) h (by omega)]
      simp (disch := omega) only [lit, if_true, if_false, nI_leI, nI_ltI, nI_eq, nI_neg, nI_neg', nI_negE, ng_lt, ng_le, ng_nlt, ng_nle, ib_nI, nI_clamp, nI_add, nI_mul, nI_sub, nI_nn, if_pos, if_neg, decide_eq_true_eq, letw, leti, letl, Option.bind_some, nI_rem]
