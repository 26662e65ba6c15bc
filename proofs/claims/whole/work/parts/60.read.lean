/-! the text and its signs -/
def sg (L : Nat) (ch : Nat → Nat) (p : Nat) : Nat := if p < L then ch p else 0
abbrev dgp (L : Nat) (ch : Nat → Nat) (p : Nat) : Prop := 48 ≤ sg L ch p ∧ sg L ch p ≤ 57
def TxOK (L : Nat) (ch : Nat → Nat) : Prop := L ≤ 80 ∧ ∀ i, i < L → 32 ≤ ch i ∧ ch i ≤ 126
def Tx (L : Nat) (ch : Nat → Nat) (p : Nat) (w : Wd) : Prop := w 7 3 7 = nI L ∧ (∀ i, i < L → w 7 4 i = nI (ch i)) ∧ w 7 3 9 = nI p ∧ p ≤ L
def Ty (L : Nat) (ch : Nat → Nat) (p : Nat) (w : Wd) : Prop := w 8 0 19 = nI L ∧ (∀ i, i < L → w 8 14 i = nI (ch i)) ∧ w 8 0 20 = nI p ∧ p ≤ L
theorem Tx.at {L p p' : Nat} {ch : Nat → Nat} {w : Wd} (h : Tx L ch p w) (hp : p' ≤ L) : Tx L ch p' (wup w 7 3 9 (nI p')) := ⟨by rw [wup_at, if_neg (by omega)]; exact h.1, fun i hi => by rw [wup_at, if_neg (by omega)]; exact h.2.1 i hi, by rw [wup_at, if_pos ⟨rfl, rfl, rfl⟩], hp⟩
theorem Tx.row {L p r i : Nat} {ch : Nat → Nat} {w : Wd} {v : Int32} (h : Tx L ch p w) (hr : 5 ≤ r) : Tx L ch p (wup w 7 r i v) := ⟨by rw [wup_at, if_neg (by omega)]; exact h.1, fun i hi => by rw [wup_at, if_neg (by omega)]; exact h.2.1 i hi, by rw [wup_at, if_neg (by omega)]; exact h.2.2.1, h.2.2.2⟩
theorem Ty.at {L p p' : Nat} {ch : Nat → Nat} {w : Wd} (h : Ty L ch p w) (hp : p' ≤ L) : Ty L ch p' (wup w 8 0 20 (nI p')) := ⟨by rw [wup_at, if_neg (by omega)]; exact h.1, fun i hi => by rw [wup_at, if_neg (by omega)]; exact h.2.1 i hi, by rw [wup_at, if_pos ⟨rfl, rfl, rfl⟩], hp⟩
theorem Ty.row {L p r i : Nat} {ch : Nat → Nat} {w : Wd} {v : Int32} (h : Ty L ch p w) (hr : 15 ≤ r) : Ty L ch p (wup w 8 r i v) := ⟨by rw [wup_at, if_neg (by omega)]; exact h.1, fun i hi => by rw [wup_at, if_neg (by omega)]; exact h.2.1 i hi, by rw [wup_at, if_neg (by omega)]; exact h.2.2.1, h.2.2.2⟩
theorem sg_lt {L p : Nat} {ch : Nat → Nat} (h : 1 ≤ sg L ch p) : p < L := by
  unfold sg at h
  by_cases hp : p < L
  · exact hp
  · rw [if_neg hp] at h; omega
theorem sg_le {L p : Nat} {ch : Nat → Nat} (ho : TxOK L ch) : sg L ch p ≤ 126 := by
  unfold sg
  by_cases hp : p < L
  · rw [if_pos hp]; exact (ho.2 p hp).2
  · rw [if_neg hp]; omega
theorem cSign {L p : Nat} {ch : Nat → Nat} {w : Wd} (ho : TxOK L ch) (h : Tx L ch p w) : f_X7_sign w = some (nI (sg L ch p), w) := by
  obtain ⟨o1, o2⟩ := ho
  obtain ⟨h1, h2, h3, h4⟩ := h
  rw [f_X7_sign, h3, h1, if_neg (nI_pos (by omega))]
  unfold sg
  by_cases hp : p < L
  · have hb := o2 p hp
    rw [if_neg (by rw [nI_leI (by omega) (by omega)]; omega), if_neg (by rw [lit, nI_leI (by omega) (by omega)]; omega), if_pos (ibT (by omega) (by omega)), nI_clamp (by omega), h2 p hp, if_pos (show cb (nI (ch p)) = true from decide_eq_true (chr_nI (ch p) (by omega)).2), if_pos hp]
  · rw [if_pos (by rw [nI_leI (by omega) (by omega)]; omega), if_neg hp]; rfl
theorem mSign {L p : Nat} {ch : Nat → Nat} {w : Wd} (ho : TxOK L ch) (h : Ty L ch p w) : f_X10_sign w = some (if p < L then nI (ch p) else -1, w) := by
  obtain ⟨o1, o2⟩ := ho
  obtain ⟨h1, h2, h3, h4⟩ := h
  rw [f_X10_sign, h3, h1]
  by_cases hp : p < L
  · rw [if_neg (by rw [nI_leI (by omega) (by omega)]; omega), if_pos (ibT (by omega) (by omega)), nI_clamp (by omega), h2 p hp, if_pos hp]
  · rw [if_pos (by rw [nI_leI (by omega) (by omega)]; omega), if_neg hp]
theorem mEq {L p c : Nat} {ch : Nat → Nat} (ho : TxOK L ch) (hc : 1 ≤ c) (hc2 : c < 127) : ((if p < L then nI (ch p) else -1) = nI c) = (sg L ch p = c) := by
  unfold sg
  by_cases hp : p < L
  · have hb := ho.2 p hp
    rw [if_pos hp, if_pos hp, nI_eq (by omega) (by omega)]
  · rw [if_neg hp, if_neg hp]
    exact propext ⟨fun h => absurd h.symm (nI_ne_m1 (by omega)), fun h => by omega⟩
theorem skip_c {L p c : Nat} {ch : Nat → Nat} {w : Wd} (ho : TxOK L ch) (h : Tx L ch p w) (hc2 : c < 127) : f_X7_skip w (nI c) = if sg L ch p = c then some (1, wup w 7 3 9 (nI (p + 1))) else some (0, w) := by
  have hs := sg_le (p := p) ho
  rw [f_X7_skip, cSign ho h, Option.bind_some]
  dsimp only
  by_cases he : sg L ch p = c
  · rw [if_pos (by rw [he]), if_pos he, h.2.2.1, letw, nI_1]
  · rw [if_neg (by rw [nI_eq (by omega) (by omega)]; exact he), if_neg he]
theorem takes_m {L p c : Nat} {ch : Nat → Nat} {w : Wd} (ho : TxOK L ch) (h : Ty L ch p w) (hc : 1 ≤ c) (hc2 : c < 127) : f_X10_takes w (nI c) = if sg L ch p = c then some (1, wup w 8 0 20 (nI (p + 1))) else some (0, w) := by
  rw [f_X10_takes, mSign ho h, Option.bind_some]
  dsimp only
  by_cases he : sg L ch p = c
  · rw [if_pos (by rw [mEq ho hc hc2]; exact he), if_pos he, j_X10_takes_13, if_neg (by decide), h.2.2.1, letw, if_pos (by decide), nI_1]
  · rw [if_neg (by rw [mEq ho hc hc2]; exact he), if_neg he, j_X10_takes_13, if_pos rfl, show (w 8 0 20 + 0 : Int32) = w 8 0 20 from Int32.add_zero _, wup_self, letw, if_pos (by decide)]
theorem digit_c {L p : Nat} {ch : Nat → Nat} {w : Wd} (ho : TxOK L ch) (h : Tx L ch p w) : f_X7_isDigit w = some (if dgp L ch p then nI 1 else nI 0, w) := by
  have hs := sg_le (p := p) ho
  rw [f_X7_isDigit, cSign ho h, Option.bind_some]
  dsimp only
  by_cases h1 : 48 ≤ sg L ch p
  · rw [if_neg (by rw [lit, nI_ltI (by omega) (by omega)]; omega), cSign ho h, Option.bind_some]
    dsimp only
    by_cases h2 : sg L ch p ≤ 57
    · rw [if_neg (by rw [lit, nI_ltI (by omega) (by omega)]; omega), if_pos ⟨h1, h2⟩]; rfl
    · rw [if_pos (by rw [lit, nI_ltI (by omega) (by omega)]; omega), if_neg (fun q => h2 q.2)]; rfl
  · rw [if_pos (by rw [lit, nI_ltI (by omega) (by omega)]; omega), if_neg (fun q => h1 q.1)]; rfl
theorem in_m {L p a : Nat} {ch : Nat → Nat} {w : Wd} (ho : TxOK L ch) (ha : 1 ≤ a) (ha2 : a ≤ 57) : p_X10_in w (if p < L then nI (ch p) else -1) (nI a) 57 = if a ≤ sg L ch p ∧ sg L ch p ≤ 57 then nI 1 else nI 0 := by
  unfold sg
  by_cases hp : p < L
  · have hb := ho.2 p hp
    rw [if_pos hp, if_pos hp]
    by_cases hc : a ≤ ch p ∧ ch p ≤ 57
    · rw [if_pos hc]
      exact in_T (b := 57) hc.1 hc.2 (by omega)
    · rw [if_neg hc]
      exact in_F (b := 57) (by omega) (fun k h1 h2 e => by rw [nI_eq (by omega) (by omega)] at e; omega) (by omega)
  · rw [if_neg hp, if_neg hp, if_neg (by omega)]
    exact in_F (b := 57) (by omega) (fun k h1 h2 e => nI_ne_m1 (by omega) e.symm) (by omega)
/-- up to m digits from place p on: the number, the place behind them -/
def rd (L : Nat) (ch : Nat → Nat) : Nat → Nat → Nat → Nat × Nat
  | 0, p, v => (v, p)
  | m + 1, p, v => if dgp L ch p then rd L ch m (p + 1) (10 * v + (sg L ch p - 48)) else (v, p)
theorem rd_T {L m p v : Nat} {ch : Nat → Nat} (h : dgp L ch p) : rd L ch (m + 1) p v = rd L ch m (p + 1) (10 * v + (sg L ch p - 48)) := by rw [rd, if_pos h]
theorem rd_F {L m p v : Nat} {ch : Nat → Nat} (h : ¬ dgp L ch p) : rd L ch m p v = (v, p) := by
  cases m with
  | zero => rfl
  | succ m => rw [rd, if_neg h]
theorem rd_bd {L : Nat} {ch : Nat → Nat} : ∀ (m p v k : Nat), p ≤ L → v < 10 ^ k → (rd L ch m p v).1 < 10 ^ (k + m) ∧ v ≤ (rd L ch m p v).1 ∧ p ≤ (rd L ch m p v).2 ∧ (rd L ch m p v).2 ≤ L
  | 0, p, v, k, hp, hv => ⟨hv, Nat.le_refl _, Nat.le_refl _, hp⟩
  | m + 1, p, v, k, hp, hv => by
    by_cases h : dgp L ch p
    · have hl := sg_lt (L := L) (ch := ch) (p := p) (by omega)
      have h10 : 10 ^ (k + 1) = 10 * 10 ^ k := by rw [Nat.pow_succ, Nat.mul_comm]
      have hi := rd_bd (L := L) (ch := ch) m (p + 1) (10 * v + (sg L ch p - 48)) (k + 1) (by omega) (by rw [h10]; omega)
      rw [rd_T h, show k + (m + 1) = k + 1 + m from by omega]
      exact ⟨hi.1, by omega, by omega, hi.2.2.2⟩
    · rw [rd_F h]
      exact ⟨Nat.lt_of_lt_of_le hv (pw_mono (by omega)), Nat.le_refl _, Nat.le_refl _, hp⟩
theorem rd1 {L p : Nat} {ch : Nat → Nat} : rd L ch 1 p 0 = if dgp L ch p then (sg L ch p - 48, p + 1) else (0, p) := by
  by_cases h : dgp L ch p
  · rw [rd_T h, if_pos h, rd]; simp
  · rw [rd_F h, if_neg h]
theorem digits_c {L M : Nat} {ch : Nat → Nat} (ho : TxOK L ch) (hM : M ≤ 9) : ∀ (m i p v fu : Nat) (w : Wd), M - i = m → i ≤ M → m < fu → v < 10 ^ i → Tx L ch p w → h_X7_readDigits_4 fu w (nI M) (nI v) (nI i) = some (nI (rd L ch m p v).1, wup w 7 3 9 (nI (rd L ch m p v).2)) := by
  intro m
  induction m with
  | zero =>
    intro i p v fu w h1 h2 h3 hv hT
    obtain ⟨fu, rfl⟩ : ∃ z, fu = z + 1 := ⟨fu - 1, by omega⟩
    rw [h_X7_readDigits_4, b_X7_readDigits_4, if_pos (by rw [nI_leI (by omega) (by omega)]; omega), rd, ← hT.2.2.1, wup_self]
  | succ m ih =>
    intro i p v fu w h1 h2 h3 hv hT
    obtain ⟨fu, rfl⟩ : ∃ z, fu = z + 1 := ⟨fu - 1, by omega⟩
    have h9 : 10 ^ (i + 1) ≤ 10 ^ 9 := pw_mono (by omega)
    have h10 : 10 ^ (i + 1) = 10 * 10 ^ i := by rw [Nat.pow_succ, Nat.mul_comm]
    rw [h_X7_readDigits_4, b_X7_readDigits_4, if_neg (by rw [nI_leI (by omega) (by omega)]; omega), digit_c ho hT, Option.bind_some]
    dsimp only
    by_cases h : dgp L ch p
    · have hl := sg_lt (L := L) (ch := ch) (p := p) (by omega)
      rw [if_pos h, if_neg (by decide), cSign ho hT, Option.bind_some]
      dsimp only
      rw [show (10 * nI v + (nI (sg L ch p) - 48) : Int32) = nI (10 * v + (sg L ch p - 48)) from by rw [lit, lit, nI_sub (by omega), nI_mul, nI_add], leti, hT.2.2.1, nI_1, letw, nI_1, ih (i + 1) (p + 1) _ fu _ (by omega) (by omega) (by omega) (by rw [h10]; omega) (hT.at (by omega)), wup_wup, rd_T h]
    · rw [if_neg h, if_pos (by decide), rd_F h, ← hT.2.2.1, wup_self]
theorem readDigits_c {L M p : Nat} {ch : Nat → Nat} {w : Wd} (ho : TxOK L ch) (hM : M ≤ 9) (hT : Tx L ch p w) : f_X7_readDigits w (nI M) = some (nI (rd L ch M p 0).1, wup w 7 3 9 (nI (rd L ch M p 0).2)) := by
  rw [f_X7_readDigits, show (0 : Int32) = nI 0 from rfl]
  exact digits_c ho hM M 0 p 0 FU w rfl (by omega) (by rw [FU_eq]; omega) (by omega) hT
theorem reads72 {c wh le y x : Nat} {w : Wd} (hc : c < 27) (hwh : wh < 5) (e21 : w 8 0 21 = nI c) (hy : y < 2 ^ 31) (hle : le < 2 ^ 31) : j_X10_reads_72 w (nI wh) (nI le) (nI y) (nI x) = some (if y < le then nI 0 else nI 1, wup w 8 16 (5 * c + wh) (nI x)) := by
  rw [j_X10_reads_72, e21, show (5 * nI c + nI wh : Int32) = nI (5 * c + wh) from by rw [lit, nI_mul, nI_add], if_pos (ibT (by omega) (by omega)), nI_clamp (by omega), letw]
  by_cases h : y < le
  · rw [if_pos (by rw [nI_ltI (by omega) (by omega)]; exact h), if_pos h]; rfl
  · rw [if_neg (by rw [nI_ltI (by omega) (by omega)]; exact h), if_neg h]; rfl
theorem digits_m {L M c wh le pl : Nat} {ch : Nat → Nat} (ho : TxOK L ch) (hM : M ≤ 9) (hc : c < 27) (hwh : wh < 5) (hle : le < 10) (hpl : pl < 2) : ∀ (m i p v fu : Nat) (w : Wd), M - i = m → i ≤ M → m < fu → v < 10 ^ i → (i = 0 → pl = 1) → Ty L ch p w → w 8 0 21 = nI c → h_X10_reads_6 fu w (nI wh) (nI le) (nI M) (nI pl) (nI i) (nI v) = some (if i + ((rd L ch m p v).2 - p) < le then nI 0 else nI 1, wup (wup w 8 0 20 (nI (rd L ch m p v).2)) 8 16 (5 * c + wh) (nI (rd L ch m p v).1)) := by
  intro m
  induction m with
  | zero =>
    intro i p v fu w h1 h2 h3 hv hpi hT e21
    obtain ⟨fu, rfl⟩ : ∃ z, fu = z + 1 := ⟨fu - 1, by omega⟩
    rw [h_X10_reads_6, b_X10_reads_6, if_pos (by rw [nI_leI (by omega) (by omega)]; omega), rd, reads72 hc hwh e21 (by omega) (by omega)]
    dsimp only
    rw [← hT.2.2.1, wup_self, Nat.sub_self, Nat.add_zero]
  | succ m ih =>
    intro i p v fu w h1 h2 h3 hv hpi hT e21
    obtain ⟨fu, rfl⟩ : ∃ z, fu = z + 1 := ⟨fu - 1, by omega⟩
    have h9 : 10 ^ (i + 1) ≤ 10 ^ 9 := pw_mono (by omega)
    have h10 : 10 ^ (i + 1) = 10 * 10 ^ i := by rw [Nat.pow_succ, Nat.mul_comm]
    have hj : j_X10_reads_33 (h_X10_reads_6 fu) w (nI wh) (nI le) (nI M) (nI pl) (nI i) (nI v) (if p < L then nI (ch p) else -1) 48 = some (if i + ((rd L ch (m + 1) p v).2 - p) < le then nI 0 else nI 1, wup (wup w 8 0 20 (nI (rd L ch (m + 1) p v).2)) 8 16 (5 * c + wh) (nI (rd L ch (m + 1) p v).1)) := by
      rw [j_X10_reads_33, show (48 : Int32) = nI 48 from rfl, in_m ho (by omega) (by omega)]
      by_cases h : dgp L ch p
      · have hl := sg_lt (L := L) (ch := ch) (p := p) (by omega)
        have hsg : sg L ch p = ch p := if_pos hl
        rw [if_pos h, if_neg (by decide), mSign ho hT, Option.bind_some]
        dsimp only
        rw [if_pos hl, ← hsg, show (10 * nI v + nI (sg L ch p) - nI 48 : Int32) = nI (10 * v + (sg L ch p - 48)) from by rw [lit, nI_mul, nI_add, nI_sub (by omega)]; congr 1; omega, leti, hT.2.2.1, nI_1, letw, nI_1, ih (i + 1) (p + 1) _ fu _ (by omega) (by omega) (by omega) (by rw [h10]; omega) (by omega) (hT.at (by omega)) (by rw [wup_at, if_neg (by omega)]; exact e21), wup_wup, rd_T h]
        have hb := (rd_bd (L := L) (ch := ch) m (p + 1) (10 * v + (sg L ch p - 48)) (i + 1) (by omega) (by rw [h10]; omega)).2.2.1
        rw [show i + 1 + ((rd L ch m (p + 1) (10 * v + (sg L ch p - 48))).2 - (p + 1)) = i + ((rd L ch m (p + 1) (10 * v + (sg L ch p - 48))).2 - p) from by omega]
      · rw [if_neg h, if_pos (by decide), rd_F h, reads72 hc hwh e21 (by omega) (by omega)]
        dsimp only
        rw [← hT.2.2.1, wup_self, Nat.sub_self, Nat.add_zero]
    rw [h_X10_reads_6, b_X10_reads_6, if_neg (by rw [nI_leI (by omega) (by omega)]; omega), mSign ho hT, Option.bind_some]
    dsimp only
    by_cases hi0 : i = 0
    · rw [if_pos (by rw [hi0]; rfl), if_neg (by rw [hpi hi0]; decide)]
      exact hj
    · rw [if_neg (nI_ne_0 (by omega) hi0)]
      exact hj
theorem reads1_m {L M c wh le p : Nat} {ch : Nat → Nat} {w : Wd} (ho : TxOK L ch) (hM : M ≤ 9) (hc : c < 27) (hwh : wh < 5) (hle : le < 10) (hT : Ty L ch p w) (e21 : w 8 0 21 = nI c) : f_X10_reads w (nI wh) (nI le) (nI M) 1 = some (if (rd L ch M p 0).2 - p < le then nI 0 else nI 1, wup (wup w 8 0 20 (nI (rd L ch M p 0).2)) 8 16 (5 * c + wh) (nI (rd L ch M p 0).1)) := by
  have := digits_m (pl := 1) ho hM hc hwh hle (by omega) M 0 p 0 FU w rfl (by omega) (by rw [FU_eq]; omega) (by omega) (fun _ => rfl) hT e21
  rw [Nat.zero_add] at this
  rw [f_X10_reads]
  exact this
theorem reads0_m {L M c wh le p : Nat} {ch : Nat → Nat} {w : Wd} (ho : TxOK L ch) (hM : M ≤ 9) (hM1 : 1 ≤ M) (hc : c < 27) (hwh : wh < 5) (hle : le < 10) (hT : Ty L ch p w) (e21 : w 8 0 21 = nI c) : f_X10_reads w (nI wh) (nI le) (nI M) 0 = if sg L ch p = 48 then some (if 0 < le then nI 0 else nI 1, wup w 8 16 (5 * c + wh) (nI 0)) else some (if (rd L ch M p 0).2 - p < le then nI 0 else nI 1, wup (wup w 8 0 20 (nI (rd L ch M p 0).2)) 8 16 (5 * c + wh) (nI (rd L ch M p 0).1)) := by
  obtain ⟨m, rfl⟩ : ∃ m, M = m + 1 := ⟨M - 1, by omega⟩
  rw [f_X10_reads, show FU = (FU - 1) + 1 from by rw [FU_eq], h_X10_reads_6, b_X10_reads_6, if_neg (by rw [show (0 : Int32) = nI 0 from rfl, nI_leI (by omega) (by omega)]; omega), mSign ho hT, Option.bind_some]
  dsimp only
  rw [if_pos rfl, if_pos rfl, j_X10_reads_33, show (49 : Int32) = nI 49 from rfl, in_m ho (by omega) (by omega)]
  by_cases h : 49 ≤ sg L ch p ∧ sg L ch p ≤ 57
  · have hd : dgp L ch p := ⟨by omega, h.2⟩
    have hl := sg_lt (L := L) (ch := ch) (p := p) (by omega)
    have hsg : sg L ch p = ch p := if_pos hl
    have hb := (rd_bd (L := L) (ch := ch) m (p + 1) (sg L ch p - 48) 1 (by omega) (by omega)).2.2.1
    rw [if_pos h, if_neg (by decide), mSign ho hT, Option.bind_some, if_neg (show ¬ sg L ch p = 48 by omega)]
    dsimp only
    rw [if_pos hl, ← hsg, show (10 * 0 + nI (sg L ch p) - 48 : Int32) = nI (sg L ch p - 48) from by rw [show (10 * 0 + nI (sg L ch p) : Int32) = nI (10 * 0 + sg L ch p) from by rw [lit, lit, nI_mul, nI_add], Nat.mul_zero, Nat.zero_add, lit, nI_sub (by omega)], leti, hT.2.2.1, nI_1, letw, show (0 + 1 : Int32) = nI 1 from rfl, show (0 : Int32) = nI 0 from rfl, digits_m (pl := 0) ho hM hc hwh hle (by omega) m 1 (p + 1) (sg L ch p - 48) (FU - 1) _ (by omega) (by omega) (by rw [FU_eq]; omega) (by omega) (fun h => by omega) (hT.at (by omega)) (by rw [wup_at, if_neg (by omega)]; exact e21), wup_wup, rd_T hd, Nat.mul_zero, Nat.zero_add]
    rw [show 1 + ((rd L ch m (p + 1) (sg L ch p - 48)).2 - (p + 1)) = (rd L ch m (p + 1) (sg L ch p - 48)).2 - p from by omega]
  · rw [if_neg h, if_pos (by decide), show (0 : Int32) = nI 0 from rfl, reads72 hc hwh e21 (by omega) (by omega)]
    by_cases h48 : sg L ch p = 48
    · rw [if_pos h48]
    · have hnd : ¬ dgp L ch p := fun q => h ⟨by omega, q.2⟩
      rw [if_neg h48, rd_F hnd]
      dsimp only
      rw [Nat.sub_self, ← hT.2.2.1, wup_self]
