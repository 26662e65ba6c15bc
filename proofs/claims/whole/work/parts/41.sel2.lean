/-- the model's putting in -/
theorem gath144_loop {R b T base K r L : Nat} {a : Int32} {ow pr co ls : Nat → Nat} {y3 : Int32} (rc : Wd → Int32 → Int32 → Int32 → Int32 → Int32 → Int32 → Option (Int32 × Wd)) (hb : b < 3) (hK : K < 40) (hbase : base ≤ 280) (hr : r < R) (hls : ∀ i, i < K → ls i < R) (hs : ∀ i j, i < j → j < K → lt2 co (ls i) (ls j)) :
    ∀ (y fu : Nat) (w : Wd), Ct w R b T ow pr co → y < fu → y ≤ K → (∀ i, i < y → w 8 7 (base + i) = nI (ls i)) → (∀ i, y < i → i ≤ K → w 8 7 (base + i) = nI (ls (i - 1))) → (∀ j, y ≤ j → j < K → co r < co (ls j)) →
    ∃ y' l', h_X10_gathers_144 rc fu w a (nI base) y3 (nI b) (nI K) (nI r) (nI y) = rc (wr w 8 7 l') a (nI base) y3 (nI b) (nI (K + 1)) (nI (r + 1)) ∧ y' ≤ K ∧ (∀ i, i < y' → co (ls i) ≤ co r) ∧ (∀ j, y' ≤ j → j < K → co r < co (ls j)) ∧ (∀ i, i ≤ K → l' (base + i) = nI (insL ls y' r i)) ∧ ∀ j, (j < base ∨ base + K < j) → l' j = w 8 7 j := by
  have fin : ∀ (y fu : Nat) (w : Wd), y ≤ K → j_X10_gathers_207 rc w a (nI base) y3 (nI b) (nI K) (nI r) (nI y) = rc (wr w 8 7 (upd (w 8 7) (base + y) (nI r))) a (nI base) y3 (nI b) (nI (K + 1)) (nI (r + 1)) := by
    intro y fu w hy
    rw [j_X10_gathers_207, nI_add, if_pos (ibT (by omega) (by omega)), nI_clamp (by omega), letw, show (nI K + 1 : Int32) = nI (K + 1) from nI_add K 1, show (nI r + 1 : Int32) = nI (r + 1) from nI_add r 1]
    rfl
  have finl : ∀ (y : Nat) (w : Wd), y ≤ K → (∀ i, i < y → w 8 7 (base + i) = nI (ls i)) → (∀ i, y < i → i ≤ K → w 8 7 (base + i) = nI (ls (i - 1))) → (∀ i, i ≤ K → upd (w 8 7) (base + y) (nI r) (base + i) = nI (insL ls y r i)) ∧ ∀ j, (j < base ∨ base + K < j) → upd (w 8 7) (base + y) (nI r) j = w 8 7 j := by
    intro y w hy h1 h2
    refine ⟨fun i hi => ?_, fun j hj => upd_ne (by omega)⟩
    rcases (show i < y ∨ i = y ∨ y < i by omega) with c | c | c
    · rw [upd_ne (by omega), insL_lt c]; exact h1 i c
    · rw [c, upd_eq, insL_eq]
    · rw [upd_ne (by omega), insL_gt c]; exact h2 i c hi
  intro y
  induction y with
  | zero =>
    intro fu w hC hfu hy h1 h2 h3
    obtain ⟨fu, rfl⟩ : ∃ z, fu = z + 1 := ⟨fu - 1, by omega⟩
    obtain ⟨f1, f2⟩ := finl 0 w hy h1 h2
    refine ⟨0, upd (w 8 7) (base + 0) (nI r), ?_, by omega, fun i hi => by omega, h3, f1, f2⟩
    rw [h_X10_gathers_144, b_X10_gathers_144, if_pos (by decide), fin 0 fu w (by omega)]
  | succ y ih =>
    intro fu w hC hfu hy h1 h2 h3
    obtain ⟨fu, rfl⟩ : ∃ z, fu = z + 1 := ⟨fu - 1, by omega⟩
    obtain ⟨hR, hbT, hT, eR, eT, hrr⟩ := id hC
    obtain ⟨q1, q2, q3, q4, q5, q6⟩ := hrr (ls y) (hls y (by omega))
    obtain ⟨z1, z2, z3, z4, z5, z6⟩ := hrr r hr
    have ofy := of_spec (w := w) (r := ls y) (k := 3 + b) (by have := hls y (by omega); omega) (by omega)
    have ofr := of_spec (w := w) (r := r) (k := 3 + b) (by omega) (by omega)
    rw [q6] at ofy
    rw [z6] at ofr
    have ei : (nI base + nI (y + 1) - 1 : Int32) = nI (base + y) := by rw [nI_add, show (1 : Int32) = nI 1 from rfl, nI_sub (by omega)]; rfl
    have eb : (3 + nI b : Int32) = nI (3 + b) := nI_add 3 b
    rw [h_X10_gathers_144, b_X10_gathers_144, if_neg (by rw [show (0 : Int32) = nI 0 from rfl, nI_leI (by omega) (by omega)]; omega), ei, if_pos (ibT (by omega) (by omega)), nI_clamp (by omega), h1 y (by omega), eb, ofy, Option.bind_some]
    dsimp only
    rw [ofr, Option.bind_some]
    dsimp only
    by_cases hle : co (ls y) ≤ co r
    · obtain ⟨f1, f2⟩ := finl (y + 1) w hy h1 h2
      refine ⟨y + 1, upd (w 8 7) (base + (y + 1)) (nI r), ?_, hy, fun i hi => ?_, h3, f1, f2⟩
      · rw [if_pos (by rw [nI_leI (by omega) (by omega)]; exact hle), fin (y + 1) fu w hy]
      · by_cases hiy : i = y
        · rw [hiy]; exact hle
        · rcases hs i y (by omega) (by omega) with h | h <;> omega
    · rw [if_neg (by rw [nI_leI (by omega) (by omega)]; exact hle), if_pos (ibT (by omega) (by omega)), nI_add, if_pos (ibT (by omega) (by omega)), nI_clamp (by omega), h1 y (by omega), letw, show (nI (y + 1) + -1 : Int32) = nI y from by rw [show (-1 : Int32) = - nI 1 from rfl, nI_nn (by omega)]; rfl]
      obtain ⟨y', l', g1, g2, g3, g4, g5, g6⟩ := ih fu (wup w 8 7 (base + (y + 1)) (nI (ls y))) (by
          refine ⟨hR, hbT, hT, ?_, ?_, fun r' hr' => ?_⟩
          · rw [wup_at, if_neg (by omega)]; exact eR
          · rw [wup_at, if_neg (by omega)]; exact eT
          · rw [wup_row, if_neg (by omega)]; exact hrr r' hr') (by omega) (by omega) (fun i hi => by rw [wup_at, if_neg (by omega)]; exact h1 i (by omega)) (fun i hi hi2 => by
          by_cases hiy : i = y + 1
          · rw [hiy, wup_at, if_pos (by omega), Nat.add_sub_cancel]
          · rw [wup_at, if_neg (by omega)]; exact h2 i (by omega) hi2) (fun j hj1 hj2 => by
          by_cases hjy : j = y
          · rw [hjy]; omega
          · exact h3 j (by omega) hj2)
      refine ⟨y', l', ?_, g2, g3, g4, g5, fun j hj => ?_⟩
      · rw [g1, wr_wup]
      · rw [g6 j hj, wup_at, if_neg (by omega)]
def mb (D a R : Nat) (ow pr : Nat → Nat) (r : Nat) : Bool := ft D a ow pr r && decide (mx (ft D a ow pr) pr R = some (pr r))
theorem mb_T {D a R r : Nat} {ow pr : Nat → Nat} : mb D a R ow pr r = true ↔ ow r = a ∧ pf D (pr r) = true ∧ mx (ft D a ow pr) pr R = some (pr r) := by
  rw [mb, Bool.and_eq_true, decide_eq_true_iff, ft_T, and_assoc]
theorem mb_F {D a R r : Nat} {ow pr : Nat → Nat} (h : ¬ (ow r = a ∧ pf D (pr r) = true ∧ mx (ft D a ow pr) pr R = some (pr r))) : mb D a R ow pr r = false := by
  cases hm : mb D a R ow pr r with
  | false => rfl
  | true => exact absurd (mb_T.mp hm) h
theorem gath90_loop {R b T D m a base : Nat} {ow pr co : Nat → Nat} (ha : a < 8) (hbase : base ≤ 280) : ∀ (d k fu K : Nat) (w : Wd) (ls : Nat → Nat), Ct w R b T ow pr co → Dg w m D → R - k = d → k ≤ R → d < fu → Srt (mb D a R ow pr) co ls K k → (∀ i, i < K → w 8 7 (base + i) = nI (ls i)) →
    ∃ K' ls' l', h_X10_gathers_90 fu w (nI a) (nI base) (mP (mx (ft D a ow pr) pr R)) (nI b) (nI K) (nI k) = some (nI K', wr w 8 7 l') ∧ Srt (mb D a R ow pr) co ls' K' R ∧ (∀ i, i < K' → l' (base + i) = nI (ls' i)) ∧ ∀ j, (j < base ∨ base + 40 ≤ j) → l' j = w 8 7 j := by
  intro d
  induction d with
  | zero =>
    intro k fu K w ls hC hD h1 h2 h3 hS hl
    obtain ⟨hR, hbT, hT, eR, eT, hr⟩ := id hC
    obtain ⟨fu, rfl⟩ : ∃ z, fu = z + 1 := ⟨fu - 1, by omega⟩
    have hk : k = R := by omega
    subst hk
    refine ⟨K, ls, w 8 7, ?_, hS, hl, fun j hj => rfl⟩
    rw [h_X10_gathers_90, b_X10_gathers_90, if_pos (show ib 1 640 = true from rfl), show Int32.toNatClampNeg 1 = 1 from rfl, if_pos (by rw [eR, nI_leI (by omega) (by omega)]; omega), wr_self]
  | succ d ih =>
    intro k fu K w ls hC hD h1 h2 h3 hS hl
    obtain ⟨hR, hbT, hT, eR, eT, hr⟩ := id hC
    have hb3 := bandN_lt T
    obtain ⟨fu, rfl⟩ : ∃ z, fu = z + 1 := ⟨fu - 1, by omega⟩
    obtain ⟨q1, q2, q3, q4, q5, q6⟩ := hr k (by omega)
    obtain ⟨l1, l2⟩ := ln_spec q2
    have of1 := of_spec (w := w) (r := k) (k := 1) (by omega) (by omega)
    have of0 := of_spec (w := w) (r := k) (k := 0) (by omega) (by omega)
    rw [Nat.add_zero, q4] at of0
    rw [q5] at of1
    have skip : mb D a R ow pr k = false → ∃ K' ls' l', h_X10_gathers_90 fu w (nI a) (nI base) (mP (mx (ft D a ow pr) pr R)) (nI b) (nI K) (nI (k + 1)) = some (nI K', wr w 8 7 l') ∧ Srt (mb D a R ow pr) co ls' K' R ∧ (∀ i, i < K' → l' (base + i) = nI (ls' i)) ∧ ∀ j, (j < base ∨ base + 40 ≤ j) → l' j = w 8 7 j := fun hm => ih (k + 1) fu K w ls hC hD (by omega) (by omega) (by omega) (srt_skip hS hm) hl
    rw [h_X10_gathers_90, b_X10_gathers_90, if_pos (show ib 1 640 = true from rfl), show Int32.toNatClampNeg 1 = 1 from rfl, if_neg (by rw [eR, nI_leI (by omega) (by omega)]; omega), show f_X10_of w (nI k) 0 = f_X10_of w (nI k) (nI 0) from rfl, of0, Option.bind_some]
    dsimp only
    rw [show (nI k + 1 : Int32) = nI (k + 1) from nI_add k 1]
    by_cases how : ow k = a
    · rw [if_pos (by rw [how]), show f_X10_of w (nI k) 1 = f_X10_of w (nI k) (nI 1) from rfl, of1, Option.bind_some]
      dsimp only
      rw [begins_spec hD (by omega), Option.bind_some]
      dsimp only
      by_cases hpf : pf D (pr k) = true
      · rw [if_pos hpf, if_neg (by decide), show f_X10_of w (nI k) 1 = f_X10_of w (nI k) (nI 1) from rfl, of1, Option.bind_some]
        dsimp only
        rw [lengthOf_spec l2 (by omega) (by omega), Option.bind_some]
        dsimp only
        have hfk : ft D a ow pr k = true := ft_T.mpr ⟨how, hpf⟩
        cases hm : mx (ft D a ow pr) pr R with
        | none =>
          have := (mx_spec R).2 hm k (by omega)
          rw [hfk] at this; cases this
        | some p =>
          rw [hm] at skip
          obtain ⟨⟨r0, j1, j2, j3⟩, -⟩ := (mx_spec R).1 p hm
          have hp9 : p ≤ 999999999 := by
            have := (hr r0 (by omega)).2.1
            omega
          have hpp : pf D p = true := by rw [← j3]; exact (ft_T.mp j2).2
          have i1 := pf_ln hD.2.2.1 hD.2.1 hpf hpp (by omega) hp9
          have i2 := pf_ln hD.2.2.1 hD.2.1 hpp hpf hp9 (by omega)
          have := (ln_spec hp9).1
          rw [mP] at skip ⊢
          by_cases hpe : pr k = p
          · rw [if_pos (by rw [hpe])]
            have hmk : mb D a R ow pr k = true := mb_T.mpr ⟨how, hpf, by rw [hm, hpe]⟩
            have hK := hS.1
            obtain ⟨y', l', g1, g2, g3, g4, g5, g6⟩ := gath144_loop (L := 0) (a := nI a) (ls := ls) (y3 := nI (ln p)) (R := R) (b := b) (T := T) (base := base) (K := K) (r := k) (ow := ow) (pr := pr) (co := co) (h_X10_gathers_90 fu) (by omega) (by omega) hbase (by omega) (fun i hi => by have := (hS.2.1 i hi).1; omega) hS.2.2.2 K FU w hC (by rw [FU_eq]; omega) (Nat.le_refl _) hl (fun i h h' => by omega) (fun j h h' => by omega)
            rw [show h_X10_gathers_144 (h_X10_gathers_90 fu) FU w (nI a) (nI base) (nI (ln p)) (nI b) (nI K) (nI k) (nI K) = _ from g1]
            have hC2 : Ct (wr w 8 7 l') R b T ow pr co := by
              refine ⟨hR, hbT, hT, ?_, ?_, fun r' hr' => ?_⟩
              · rw [wr_at, if_neg (by omega)]; exact eR
              · rw [wr_at, if_neg (by omega)]; exact eT
              · rw [wr_at, if_neg (by omega)]; exact hr r' hr'
            have hD2 : Dg (wr w 8 7 l') m D := by
              obtain ⟨d1, d2, d3, d4⟩ := hD
              refine ⟨?_, d2, d3, fun i hi => ?_⟩
              · rw [wr_at, if_neg (by omega)]; exact d1
              · rw [wr_at, if_neg (by omega)]; exact d4 i hi
            have e7 : (wr w 8 7 l') 8 7 = l' := by rw [wr_at, if_pos ⟨rfl, rfl⟩]
            obtain ⟨K', ls', l'', n1, n2, n3, n4⟩ := ih (k + 1) fu (K + 1) (wr w 8 7 l') (insL ls y' k) hC2 hD2 (by omega) (by omega) (by omega) (srt_ins hS hmk g2 g3 g4) (fun i hi => by rw [e7]; exact g5 i (by omega))
            rw [hm, mP, wr_wr] at n1
            refine ⟨K', ls', l'', n1, n2, n3, fun j hj => ?_⟩
            rw [n4 j hj, e7, g6 j (by omega)]
          · rw [if_neg (by rw [nI_eq (by omega) (by omega)]; intro h; exact hpe (by have := i1.mp (by omega); have := i2.mp (by omega); omega))]
            exact skip (mb_F (fun h => hpe (by have := h.2.2; rw [hm] at this; simpa using this.symm)))
      · rw [if_neg hpf, if_pos (by decide)]
        exact skip (mb_F (fun h => hpf h.2.1))
    · rw [if_neg (by rw [nI_eq (by omega) (by omega)]; exact how)]
      exact skip (mb_F (fun h => how h.1))
theorem gathers_spec {R b T D m a base : Nat} {ow pr co : Nat → Nat} {w : Wd} (hC : Ct w R b T ow pr co) (hD : Dg w m D) (ha : a < 8) (hbase : base ≤ 280) : ∃ K ls l', f_X10_gathers w (nI a) (nI base) = some (nI K, wr w 8 7 l') ∧ Srt (mb D a R ow pr) co ls K R ∧ (∀ i, i < K → l' (base + i) = nI (ls i)) ∧ ∀ j, (j < base ∨ base + 40 ≤ j) → l' j = w 8 7 j := by
  have hR := hC.1
  obtain ⟨K, ls, l', n1, n2, n3, n4⟩ := gath90_loop (D := D) ha hbase R 0 FU 0 w (fun _ => 0) hC hD rfl (by omega) (by rw [FU_eq]; omega) ⟨by omega, fun i hi => by omega, fun r hr => by omega, fun i j _ hj => by omega⟩ (fun i hi => by omega)
  refine ⟨K, ls, l', ?_, n2, n3, n4⟩
  rw [f_X10_gathers]
  exact (gath5_loop hC hD ha (nI base) R 0 FU rfl (by omega) (by rw [FU_eq]; omega)).trans n1
/-! the router's choosing -/
theorem isBefore_spec {w : Wd} {R b r s : Nat} {ow pr co : Nat → Nat} (hC : Cc w R b ow pr co) (hr : r < R) (hs : s < R) : f_X6_isBefore 0 w (nI r) (nI s) (nI b) = some (if co r < co s ∨ (co r = co s ∧ r < s) then nI 1 else nI 0, w) := by
  obtain ⟨hR, hb, eR, hrr⟩ := hC
  obtain ⟨q1, q2, q3, q4, q5, q6⟩ := hrr r hr
  obtain ⟨z1, z2, z3, z4, z5, z6⟩ := hrr s hs
  rw [f_X6_isBefore, costOf_spec (by omega) hb, Option.bind_some]
  dsimp only
  rw [costOf_spec (by omega) hb, Option.bind_some]
  dsimp only
  rw [q6, z6]
  by_cases h1 : co r < co s
  · rw [if_pos (by rw [nI_ltI (by omega) (by omega)]; exact h1), if_pos (Or.inl h1)]; rfl
  · rw [if_neg (by rw [nI_ltI (by omega) (by omega)]; exact h1)]
    by_cases h2 : co r = co s
    · rw [if_pos (by rw [h2])]
      by_cases h3 : s ≤ r
      · rw [if_pos (by rw [nI_leI (by omega) (by omega)]; exact h3), if_neg (by omega)]; rfl
      · rw [if_neg (by rw [nI_leI (by omega) (by omega)]; exact h3), if_pos (by omega)]; rfl
    · rw [if_neg (by rw [nI_eq (by omega) (by omega)]; exact h2), if_neg (by omega)]; rfl
theorem belongs_spec {w : Wd} {R b D a r : Nat} {ow pr co : Nat → Nat} (hC : Cc w R b ow pr co) (hr : r < R) (ha : a < 8) : f_X6_belongs 0 w (nI r) (nI a) (cP (mx (ft D a ow pr) pr R)) = some (if mb D a R ow pr r = true then nI 1 else nI 0, w) := by
  obtain ⟨hR, hb, eR, hrr⟩ := hC
  obtain ⟨q1, q2, q3, q4, q5, q6⟩ := hrr r hr
  rw [f_X6_belongs, hasRt_T hR eR hr, if_neg (by decide), if_pos (ibT (by omega) (by omega)), nI_clamp (by omega)]
  by_cases how : ow r = a
  · rw [if_pos (by rw [q4, how]), if_pos (ibT (by omega) (by omega))]
    cases hm : mx (ft D a ow pr) pr R with
    | none =>
      rw [if_neg (by rw [q5, cP, show (-9 : Int32) = - nI 9 from rfl, nI_neg (by omega) (by omega) (by omega)]; exact id), if_neg]
      · rfl
      · intro h
        have := (mb_T.mp h).2.2
        rw [hm] at this; cases this
    | some p =>
      obtain ⟨⟨r0, j1, j2, j3⟩, -⟩ := (mx_spec R).1 p hm
      have hp9 : p ≤ 999999999 := by
        have := (hrr r0 (by omega)).2.1
        omega
      by_cases hpe : pr r = p
      · rw [if_pos (by rw [q5, cP, hpe]), if_pos]
        · rfl
        · exact mb_T.mpr ⟨how, by rw [hpe, ← j3]; exact (ft_T.mp j2).2, by rw [hm, hpe]⟩
      · rw [if_neg (by rw [q5, cP, nI_eq (by omega) (by omega)]; exact hpe), if_neg]
        · rfl
        · intro h
          have := (mb_T.mp h).2.2
          rw [hm] at this
          exact hpe (by simpa using this.symm)
  · rw [if_neg (by rw [q4, nI_eq (by omega) (by omega)]; exact how), if_neg (fun h => how (mb_T.mp h).1)]; rfl
/-- the best of the members behind -/
def bst (q : Nat → Bool) (co : Nat → Nat) : Nat → Option Nat
  | 0 => none
  | k + 1 => if q k = true then (match bst q co k with | none => some k | some c => some (if co k < co c then k else c)) else bst q co k
theorem bst_spec {q : Nat → Bool} {co : Nat → Nat} : ∀ k, (∀ c, bst q co k = some c → c < k ∧ q c = true ∧ ∀ r, r < k → q r = true → r = c ∨ lt2 co c r) ∧ (bst q co k = none → ∀ r, r < k → q r = false)
  | 0 => ⟨fun p h => by simp [bst] at h, fun _ r h => by omega⟩
  | k + 1 => by
    obtain ⟨i1, i2⟩ := bst_spec (q := q) (co := co) k
    rw [bst]
    by_cases hf : q k = true
    · rw [if_pos hf]
      cases hm : bst q co k with
      | none =>
        refine ⟨fun p hp => ?_, fun h => by simp at h⟩
        simp only [Option.some.injEq] at hp
        subst hp
        refine ⟨by omega, hf, fun r hr hfr => ?_⟩
        by_cases hrk : r = k
        · exact Or.inl hrk
        · have := i2 hm r (by omega)
          rw [this] at hfr; cases hfr
      | some c =>
        refine ⟨fun p hp => ?_, fun h => by simp at h⟩
        obtain ⟨j1, j2, j3⟩ := i1 c hm
        simp only [Option.some.injEq] at hp
        by_cases hle : co k < co c
        · rw [if_pos hle] at hp
          subst hp
          refine ⟨by omega, hf, fun r hr hfr => ?_⟩
          by_cases hrk : r = k
          · exact Or.inl hrk
          · rcases j3 r (by omega) hfr with h | h
            · rw [h]; exact Or.inr (Or.inl hle)
            · rcases h with h | h
              · exact Or.inr (Or.inl (by omega))
              · exact Or.inr (Or.inl (by omega))
        · rw [if_neg hle] at hp
          subst hp
          refine ⟨by omega, j2, fun r hr hfr => ?_⟩
          by_cases hrk : r = k
          · rw [hrk]
            by_cases he : co c = co k
            · exact Or.inr (Or.inr ⟨he, j1⟩)
            · exact Or.inr (Or.inl (by omega))
          · exact j3 r (by omega) hfr
    · rw [if_neg hf]
      have hf' : q k = false := by simpa using hf
      refine ⟨fun p hp => ?_, fun h r hr => ?_⟩
      · obtain ⟨j1, j2, j3⟩ := i1 p hp
        refine ⟨by omega, j2, fun r hr hfr => ?_⟩
        by_cases hrk : r = k
        · rw [hrk] at hfr; exact absurd hfr hf
        · exact j3 r (by omega) hfr
      · by_cases hrk : r = k
        · rw [hrk]; exact hf'
        · exact i2 h r (by omega)
/-- behind which route: all, or those behind one -/
def aft (D a R : Nat) (ow pr co : Nat → Nat) (o : Option Nat) (r : Nat) : Bool := mb D a R ow pr r && (match o with | none => true | some x => decide (co x < co r ∨ (co x = co r ∧ x < r)))
theorem choice_loop {w : Wd} {R b D a : Nat} {ow pr co : Nat → Nat} (hC : Cc w R b ow pr co) (ha : a < 8) (o : Option Nat) (ho : okM R o) : ∀ (d k fu : Nat), R - k = d → k ≤ R → d < fu → h_X6_choiceAfter_7 0 fu w (cM o) (nI a) (cP (mx (ft D a ow pr) pr R)) (nI b) (cM (bst (aft D a R ow pr co o) co k)) (nI k) = some (cM (bst (aft D a R ow pr co o) co R), w) := by
  intro d
  have hR := hC.1
  have eR := hC.2.2.1
  have hrr := hC.2.2.2
  induction d with
  | zero =>
    intro k fu h1 h2 h3
    obtain ⟨fu, rfl⟩ : ∃ z, fu = z + 1 := ⟨fu - 1, by omega⟩
    have hk : k = R := by omega
    subst hk
    rw [h_X6_choiceAfter_7, b_X6_choiceAfter_7, if_pos (by rw [eR, nI_leI (by omega) (by omega)]; omega)]
  | succ d ih =>
    intro k fu h1 h2 h3
    obtain ⟨fu, rfl⟩ : ∃ z, fu = z + 1 := ⟨fu - 1, by omega⟩
    have hn := ih (k + 1) fu (by omega) (by omega) (by omega)
    rw [bst] at hn
    rw [h_X6_choiceAfter_7, b_X6_choiceAfter_7, if_neg (by rw [eR, nI_leI (by omega) (by omega)]; omega), belongs_spec hC (by omega) ha, Option.bind_some]
    dsimp only
    rw [show (nI k + 1 : Int32) = nI (k + 1) from nI_add k 1]
    have join : aft D a R ow pr co o k = true → j_X6_choiceAfter_45 0 (h_X6_choiceAfter_7 0 fu) w (cM o) (nI a) (cP (mx (ft D a ow pr) pr R)) (nI b) (cM (bst (aft D a R ow pr co o) co k)) (nI k) = some (cM (bst (aft D a R ow pr co o) co R), w) := by
      intro hq
      rw [if_pos hq] at hn
      rw [j_X6_choiceAfter_45, show (nI k + 1 : Int32) = nI (k + 1) from nI_add k 1]
      cases hm : bst (aft D a R ow pr co o) co k with
      | none =>
        rw [hm] at hn
        rw [cM, if_pos rfl]
        exact hn
      | some c =>
        rw [hm] at hn
        obtain ⟨j1, j2, j3⟩ := (bst_spec k).1 c hm
        rw [cM, if_neg (by rw [show (-9 : Int32) = - nI 9 from rfl, nI_neg (by omega) (by omega) (by omega)]; exact id), isBefore_spec hC (by omega) (by omega), Option.bind_some]
        dsimp only
        by_cases hlt : co k < co c
        · rw [if_pos (Or.inl hlt), if_neg (by decide)]
          simp only [if_pos hlt] at hn
          exact hn
        · rw [if_neg (c := co k < co c ∨ (co k = co c ∧ k < c)) (by omega), if_pos (by decide)]
          simp only [if_neg hlt] at hn
          exact hn
    by_cases hmb : mb D a R ow pr k = true
    · rw [if_pos hmb, if_neg (by decide)]
      cases o with
      | none =>
        rw [cM, if_pos rfl]
        exact join (by simp [aft, hmb])
      | some x =>
        have hx := ho x rfl
        rw [cM, if_neg (by rw [show (-9 : Int32) = - nI 9 from rfl, nI_neg (by omega) (by omega) (by omega)]; exact id), isBefore_spec hC hx (by omega), Option.bind_some]
        dsimp only
        by_cases hlt : co x < co k ∨ (co x = co k ∧ x < k)
        · rw [if_pos hlt, if_neg (by decide)]
          exact join (by simp [aft, hmb, hlt])
        · rw [if_neg hlt, if_pos (by decide)]
          rw [if_neg (by simp only [aft, hmb, Bool.true_and, decide_eq_true_eq]; exact hlt)] at hn
          exact hn
    · rw [if_neg hmb, if_pos (by decide)]
      rw [if_neg (by simp only [aft, Bool.and_eq_true]; exact fun h => hmb h.1)] at hn
      exact hn
def chI (ls : Nat → Nat) (K i : Nat) : Option Nat := if i < K then some (ls i) else none
theorem choice_spec {w : Wd} {R b D a K i : Nat} {ow pr co ls : Nat → Nat} (hC : Cc w R b ow pr co) (ha : a < 8) (hS : Srt (mb D a R ow pr) co ls K R) : f_X6_choiceAfter 0 w (-9) (nI a) (cP (mx (ft D a ow pr) pr R)) (nI b) = some (cM (chI ls K 0), w) ∧ (i < K → f_X6_choiceAfter 0 w (nI (ls i)) (nI a) (cP (mx (ft D a ow pr) pr R)) (nI b) = some (cM (chI ls K (i + 1)), w)) := by
  have hR := hC.1
  obtain ⟨s1, s2, s3, s4⟩ := hS
  have ltirr : ∀ x y, lt2 co x y → lt2 co y x → False := by
    intro x y h1 h2
    rcases h1 with h1 | h1 <;> rcases h2 with h2 | h2 <;> omega
  have ltself : ∀ x, ¬ lt2 co x x := fun x h => ltirr x x h h
  constructor
  · have := choice_loop hC (D := D) ha none (fun q h => by cases h) R 0 FU rfl (by omega) (by rw [FU_eq]; omega)
    rw [f_X6_choiceAfter]
    refine this.trans ?_
    congr 2
    congr 1
    cases hb : bst (aft D a R ow pr co none) co R with
    | none =>
      have hn := (bst_spec R).2 hb
      rw [chI]
      split
      · rename_i h0
        have := hn (ls 0) (s2 0 h0).1
        rw [aft, (s2 0 h0).2] at this; cases this
      · rfl
    | some c =>
      obtain ⟨j1, j2, j3⟩ := (bst_spec R).1 c hb
      have hmc : mb D a R ow pr c = true := by simp only [aft, Bool.and_true] at j2; exact j2
      obtain ⟨j, hj, e⟩ := s3 c j1 hmc
      rw [chI, if_pos (by omega)]
      congr 1
      rw [← e]
      by_cases h0 : j = 0
      · rw [h0]
      · have h1 := s4 0 j (by omega) hj
        have h2 := j3 (ls 0) (s2 0 (by omega)).1 (by simp only [aft, Bool.and_true]; exact (s2 0 (by omega)).2)
        rw [← e] at h2
        rcases h2 with h2 | h2
        · exact h2.symm
        · exact (ltirr _ _ h1 h2).elim
  · intro hi
    have := choice_loop hC (D := D) ha (some (ls i)) (fun q h => by cases h; exact (s2 i hi).1) R 0 FU rfl (by omega) (by rw [FU_eq]; omega)
    rw [f_X6_choiceAfter]
    refine this.trans ?_
    congr 2
    congr 1
    have aft_T : ∀ r, aft D a R ow pr co (some (ls i)) r = true ↔ mb D a R ow pr r = true ∧ lt2 co (ls i) r := by
      intro r
      simp only [aft, Bool.and_eq_true, decide_eq_true_eq]
      exact Iff.rfl
    cases hb : bst (aft D a R ow pr co (some (ls i))) co R with
    | none =>
      have hn := (bst_spec R).2 hb
      rw [chI]
      split
      · rename_i h0
        have h5 := hn (ls (i + 1)) (s2 _ h0).1
        have h6 := (aft_T (ls (i + 1))).mpr ⟨(s2 _ h0).2, s4 i (i + 1) (by omega) h0⟩
        rw [h5] at h6; cases h6
      · rfl
    | some c =>
      obtain ⟨j1, j2, j3⟩ := (bst_spec R).1 c hb
      obtain ⟨hmc, hlt⟩ := (aft_T c).mp j2
      obtain ⟨j, hj, e⟩ := s3 c j1 hmc
      rw [← e] at hlt
      have hij : i < j := by
        rcases (show i < j ∨ i = j ∨ j < i by omega) with c | c | c
        · exact c
        · rw [c] at hlt; exact (ltself _ hlt).elim
        · exact (ltirr _ _ hlt (s4 j i c hi)).elim
      rw [chI, if_pos (by omega)]
      congr 1
      rw [← e]
      by_cases h0 : j = i + 1
      · rw [h0]
      · have h1 := s4 (i + 1) j (by omega) hj
        have h2 := j3 (ls (i + 1)) (s2 _ (by omega)).1 ((aft_T _).mpr ⟨(s2 _ (by omega)).2, s4 i (i + 1) (by omega) (by omega)⟩)
        rw [← e] at h2
        rcases h2 with h2 | h2
        · exact h2.symm
        · exact (ltirr _ _ h1 h2).elim
