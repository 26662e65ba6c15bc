/-! least costs -/
def mnR (f : Nat → Nat) : Nat → Nat
  | 0 => 1000000
  | k + 1 => min (mnR f k) (f k)
theorem mnR_le {f : Nat → Nat} : ∀ (k : Nat), mnR f k ≤ 1000000
  | 0 => Nat.le_refl _
  | k + 1 => Nat.le_trans (Nat.min_le_left _ _) (mnR_le k)
theorem mnR_at {f : Nat → Nat} : ∀ (k r : Nat), r < k → mnR f k ≤ f r
  | 0, r, h => by omega
  | k + 1, r, h => by
    rw [mnR]
    by_cases hr : r = k
    · rw [hr]; exact Nat.min_le_right _ _
    · exact Nat.le_trans (Nat.min_le_left _ _) (mnR_at k r (by omega))
theorem mnR_ge {f : Nat → Nat} {z : Nat} : ∀ (k : Nat), z ≤ 1000000 → (∀ r, r < k → z ≤ f r) → z ≤ mnR f k
  | 0, hz, _ => hz
  | k + 1, hz, h => Nat.le_min.mpr ⟨mnR_ge k hz (fun r hr => h r (by omega)), h k (by omega)⟩
theorem mnR_ex {f : Nat → Nat} : ∀ (k : Nat), mnR f k = 1000000 ∨ ∃ r, r < k ∧ mnR f k = f r
  | 0 => Or.inl rfl
  | k + 1 => by
    rw [mnR]
    by_cases h : mnR f k ≤ f k
    · rw [Nat.min_eq_left h]
      rcases mnR_ex (f := f) k with h1 | ⟨r, h1, h2⟩
      · exact Or.inl h1
      · exact Or.inr ⟨r, by omega, h2⟩
    · rw [Nat.min_eq_right (by omega)]
      exact Or.inr ⟨k, by omega, rfl⟩
def mnF (f : Nat → Nat) : Nat → Nat → Nat
  | _, 0 => 1000000
  | k, m + 1 => min (f k) (mnF f (k + 1) m)
theorem mnF_le {f : Nat → Nat} : ∀ (m k : Nat), mnF f k m ≤ 1000000
  | 0, _ => Nat.le_refl _
  | m + 1, k => Nat.le_trans (Nat.min_le_right _ _) (mnF_le m (k + 1))
theorem mnF_at {f : Nat → Nat} : ∀ (m k r : Nat), k ≤ r → r < k + m → mnF f k m ≤ f r
  | 0, k, r, h, h2 => by omega
  | m + 1, k, r, h, h2 => by
    rw [mnF]
    by_cases hr : r = k
    · rw [hr]; exact Nat.min_le_left _ _
    · exact Nat.le_trans (Nat.min_le_right _ _) (mnF_at m (k + 1) r (by omega) (by omega))
theorem mnF_ge {f : Nat → Nat} {z : Nat} : ∀ (m k : Nat), z ≤ 1000000 → (∀ r, k ≤ r → r < k + m → z ≤ f r) → z ≤ mnF f k m
  | 0, _, hz, _ => hz
  | m + 1, k, hz, h => Nat.le_min.mpr ⟨h k (by omega) (by omega), mnF_ge m (k + 1) hz (fun r h1 h2 => h r (by omega) (by omega))⟩
/-- the cost of a route; the costs of the routes from a to u; the least one -/
def cv (ow nx co : Nat → Nat) (r : Nat) : Nat := if ow r = nx r then 0 else co r
def cf (D R : Nat) (ow pr nx co : Nat → Nat) (a u r : Nat) : Nat := if mb D a R ow pr r = true ∧ nx r = u then cv ow nx co r else 1000000
def cm (D R : Nat) (ow pr nx co : Nat → Nat) (a u : Nat) : Nat := mnR (cf D R ow pr nx co a u) R
/-- the cost of a way that begins with a route -/
def gf (n L R : Nat) (ow pr nx co : Nat → Nat) (rec : Nat → Nat → Option Nat → Nat) (a M : Nat) (mk : Option Nat) (r : Nat) : Nat := if mb (dn n L mk) a R ow pr r = true then (if ow r = nx r then 0 else co r + rec (nx r) (M ||| 2 ^ a) mk) else 1000000
def mc (n L Lim R : Nat) (ow pr nx co : Nat → Nat) (mf : Nat → Option Nat → Option Nat) : Nat → (Nat → Nat → Option Nat → Nat)
  | 0 => fun _ _ _ => 1000000
  | x + 1 => fun a M mk => if M.testBit a = true ∨ Lim ≤ pop M then 1000000 else if mf a mk = some a then 0 else mnR (gf n L R ow pr nx co (mc n L Lim R ow pr nx co mf x) a M (mf a mk)) R
theorem mc_b {n L Lim R x a M : Nat} {ow pr nx co : Nat → Nat} {mf : Nat → Option Nat → Option Nat} {mk : Option Nat} (h : M.testBit a = true ∨ Lim ≤ pop M) : mc n L Lim R ow pr nx co mf x a M mk = 1000000 := by
  cases x with
  | zero => rfl
  | succ x => rw [mc]; exact if_pos h
theorem mc_t {n L Lim R x a M : Nat} {ow pr nx co : Nat → Nat} {mf : Nat → Option Nat → Option Nat} {mk : Option Nat} (h : ¬ (M.testBit a = true ∨ Lim ≤ pop M)) (h2 : mf a mk = some a) : mc n L Lim R ow pr nx co mf (x + 1) a M mk = 0 := by
  rw [mc]
  dsimp only
  rw [if_neg h, if_pos h2]
theorem mc_g {n L Lim R x a M : Nat} {ow pr nx co : Nat → Nat} {mf : Nat → Option Nat → Option Nat} {mk : Option Nat} (h : ¬ (M.testBit a = true ∨ Lim ≤ pop M)) (h2 : ¬ mf a mk = some a) : mc n L Lim R ow pr nx co mf (x + 1) a M mk = mnR (gf n L R ow pr nx co (mc n L Lim R ow pr nx co mf x) a M (mf a mk)) R := by
  rw [mc]
  dsimp only
  rw [if_neg h, if_neg h2]
theorem wup_wup (w : Wd) (g c i : Nat) (v v' : Int32) : wup (wup w g c i v) g c i v' = wup w g c i v' := by
  apply wd_ext
  intro g' c' i'
  rw [wup_at, wup_at, wup_at]
  split <;> rfl
theorem cM_inj {S : Nat} {a b : Option Nat} (hS : S ≤ 8) (ha : okM S a) (hb : okM S b) (h : cM a = cM b) : a = b := by
  cases a with
  | none =>
    cases b with
    | none => rfl
    | some q =>
      have := hb q rfl
      exact absurd h.symm (nI_ne_m9 (c := q) (by omega))
  | some p =>
    have hp := ha p rfl
    cases b with
    | none => exact absurd h (nI_ne_m9 (c := p) (by omega))
    | some q =>
      have := hb q rfl
      have h' : nI p = nI q := h
      rw [nI_eq (by omega) (by omega)] at h'
      rw [h']
/-- the model's words for a mark at a switch -/
noncomputable def mrk (wm : Wd) (y1 y2 y3 y4 : Int32) : Option (Int32 × Wd) :=
  (f_X10_portOf wm y2).bind fun q2 =>
      if 0 ≤ y3 then
        j_X10_arrives_100 q2.2 y1 y2 y4 y3
      else
        if ib (10 + y1) 640 = true then
        if (q2.2 8 1 (Int32.toNatClampNeg (10 + y1))) = 1 then
          if q2.1 < 0 then
            j_X10_arrives_100 q2.2 y1 y2 y4 y3
          else
            if ib ((350 + (2 * q2.1)) + 1) 640 = true then
            leti (q2.2 8 1 (Int32.toNatClampNeg ((350 + (2 * q2.1)) + 1))) fun u10 =>
            j_X10_arrives_100 q2.2 y1 y2 y4 u10
            else none
        else
          j_X10_arrives_100 q2.2 y1 y2 y4 y3
        else none
/-- what a search is in -/
def Kc (t S R P T n L Lim : Nat) (v0 : Nat → Int32) (N0 : Nat → Nat → Int32) (tg : Option Nat) (mf : Nat → Option Nat → Option Nat) : Prop :=
  Vd t v0 S R P ∧ Cp N0 v0 S R P ∧ (v0 4 = nI T ∧ T ≤ 1000000) ∧ (v0 3 = nI Lim ∧ 1 ≤ Lim ∧ Lim ≤ 6) ∧ (1 ≤ n ∧ n ≤ 999999999 ∧ IsLen n L ∧ L ≤ 9) ∧ okM S tg ∧ (∀ wc : Wd, wc 0 = N0 → f_X5_switchOf 0 wc (nI n) = some (cM tg, wc)) ∧
  ∀ a mk, a < S → okM S mk → okM S (mf a mk) ∧ (mf a mk = mk ∨ mf a mk = tg) ∧ (∀ wc : Wd, wc 0 = N0 → f_X4_markAt 0 wc (nI a) (nI n) (cM mk) = some (cM (mf a mk), wc)) ∧ ∀ (wm : Wd) (y4 : Int32), (∀ j, j < 30 ∨ 350 ≤ j → wm 8 1 j = v0 j) → mrk wm (nI a) (nI n) (mM mk) y4 = j_X10_arrives_100 wm (nI a) (nI n) y4 (mM (mf a mk))
theorem kc_ex {t S R P T n L Lim : Nat} {v0 : Nat → Int32} {N0 : Nat → Nat → Int32} (hV : Vd t v0 S R P) (hC : Cp N0 v0 S R P) (hT : v0 4 = nI T ∧ T ≤ 1000000) (hL : v0 3 = nI Lim ∧ 1 ≤ Lim ∧ Lim ≤ 6) (hn : 1 ≤ n ∧ n ≤ 999999999 ∧ IsLen n L ∧ L ≤ 9) : ∃ tg mf, Kc t S R P T n L Lim v0 N0 tg mf := by
  have hS := hV.1.1
  have hP := hV.1.2.2.1
  have ePv : v0 2 = nI P := hV.1.2.2.2.2.2
  have hpt := hV.2.2.2.2.2.2.2.1
  have htg : ∃ tg, okM S tg ∧ ∀ wc : Wd, wc 0 = N0 → f_X5_switchOf 0 wc (nI n) = some (cM tg, wc) := by
    rcases first (p := fun k => v0 (350 + 2 * k) = nI n) P with ⟨k, k1, k2, k3⟩ | h
    · obtain ⟨n', q, y1, y2, y3, y4, y5⟩ := hpt k k1
      dsimp only at y5
      refine ⟨some q, fun q' h => by cases h; exact y3, fun wc h0 => ?_⟩
      have e11 : ∀ j, j < P → wc 0 11 j = v0 (350 + 2 * j) := fun j hj => by rw [h0]; exact (hC.2.2.2.2.2.1 j hj).1
      rw [swOf_T hP (by rw [h0]; exact hC.1.2.2.1.trans ePv) k1 (by rw [e11 k k1]; exact k2) (fun j hj => by rw [e11 j (by omega)]; exact k3 j hj), h0, (hC.2.2.2.2.2.1 k k1).2, y5, cM]
    · refine ⟨none, fun q' h => (by cases h), fun wc h0 => ?_⟩
      have e11 : ∀ j, j < P → wc 0 11 j = v0 (350 + 2 * j) := fun j hj => by rw [h0]; exact (hC.2.2.2.2.2.1 j hj).1
      rw [swOf_F hP (by rw [h0]; exact hC.1.2.2.1.trans ePv) (fun j hj => by rw [e11 j (by omega)]; exact h j hj), cM]
  obtain ⟨tg, g1, g2⟩ := htg
  have hall : ∀ a mk, ∃ mk', a < S → okM S mk → okM S mk' ∧ (mk' = mk ∨ mk' = tg) ∧ (∀ wc : Wd, wc 0 = N0 → f_X4_markAt 0 wc (nI a) (nI n) (cM mk) = some (cM mk', wc)) ∧ ∀ (wm : Wd) (y4 : Int32), (∀ j, j < 30 ∨ 350 ≤ j → wm 8 1 j = v0 j) → mrk wm (nI a) (nI n) (mM mk) y4 = j_X10_arrives_100 wm (nI a) (nI n) y4 (mM mk') := by
    intro a mk
    by_cases h : a < S ∧ okM S mk
    · obtain ⟨mk', m1, m2, m3⟩ := mark_both (n := n) hV hC h.1 h.2
      refine ⟨mk', fun _ _ => ⟨m1, ?_, m2, m3⟩⟩
      have e := m2 (fun _ => N0) rfl
      rw [f_X4_markAt] at e
      split at e
      · split at e
        · exact Or.inl (cM_inj hS m1 h.2 (congrArg Prod.fst (Option.some.inj e)).symm)
        · rw [g2 _ rfl, Option.bind_some] at e
          exact Or.inr (cM_inj hS m1 g1 (congrArg Prod.fst (Option.some.inj e)).symm)
      · exact Or.inl (cM_inj hS m1 h.2 (congrArg Prod.fst (Option.some.inj e)).symm)
    · exact ⟨none, fun h1 h2 => absurd ⟨h1, h2⟩ h⟩
  refine ⟨tg, fun a mk => (hall a mk).choose, hV, hC, hT, hL, hn, g1, g2, fun a mk h1 h2 => (hall a mk).choose_spec h1 h2⟩
