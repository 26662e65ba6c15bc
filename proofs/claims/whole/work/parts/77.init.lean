/-! the world at the start -/
def nr0 (i : Nat) : Int32 := match i with
  | 7 => 5
  | _ => 0
def nr : Nat → Nat → Int32
  | 0 => nr0
  | _ => fun _ => 0
def xr0 (i : Nat) : Int32 := match i with
  | 3 => 1000000
  | _ => 0
def xr : Nat → Nat → Int32
  | 16 => xr0
  | _ => fun _ => 0
def mr : Nat → Nat → Int32
  | 1 => upd (fun _ => 0) (Int32.toNatClampNeg 3) 5
  | _ => fun _ => 0
def w0 : Wd := fun g c => if g < 7 then nr c else if g = 7 then xr c else mr c
theorem w0_0 : w0 0 = nr := funext fun c => if_pos (by omega)
theorem w0_7 : w0 7 = xr := funext fun c => by rw [w0, if_neg (by omega), if_pos rfl]
theorem w0_8 : w0 8 = mr := funext fun c => by rw [w0, if_neg (by omega), if_neg (by omega)]
theorem mr_1 (j : Nat) : mr 1 j = if j = 3 then nI 5 else nI 0 := by
  show upd (fun _ => 0) (Int32.toNatClampNeg 3) 5 j = _
  rw [upd_at]
  rfl
theorem Inv_0 : Inv 0 w0 := by
  have hv : ∀ j, j ≠ 3 → w0 8 1 j = nI 0 := fun j h => by rw [w0_8, mr_1, if_neg h]
  have hv3 : w0 8 1 3 = nI 5 := by rw [w0_8, mr_1, if_pos rfl]
  have n01 : ¬ nI 0 = nI 1 := by decide
  have hn : ∀ c i, ¬ (c = 0 ∧ i = 7) → w0 0 c i = nI 0 := by
    intro c i h
    rw [w0_0]
    match c with
    | 0 =>
      have hi : i ≠ 7 := fun e => h ⟨rfl, e⟩
      clear h
      show nr0 i = nI 0
      unfold nr0
      split
      · exact absurd rfl hi
      · rfl
    | c + 1 => rfl
  have hcnt : ∀ n, cnt (w0 8 1) n = 0 := by
    intro n
    induction n with
    | zero => rfl
    | succ n ih => rw [cnt, ih, hv _ (by omega), if_neg n01]
  have hx : ∀ c i, c ≠ 16 → w0 7 c i = nI 0 := by
    intro c i h
    rw [w0_7]
    unfold xr
    split
    · exact absurd rfl h
    · rfl
  refine ⟨by omega, ⟨0, 0, 0, ⟨⟨by omega, by omega, by omega, hv 0 (by omega), hv 1 (by omega), hv 2 (by omega)⟩, ⟨5, by omega, by omega, hv3⟩, ⟨0, by omega, hv 4 (by omega)⟩, by rw [hcnt, hv 5 (by omega)], fun s hs => by omega, fun s hs => by omega, fun r hr => by omega, fun k hk => by omega, fun p hp => Or.inl (hv _ (by omega))⟩, ⟨⟨?_, ?_, ?_, ?_, ?_, ?_⟩, ⟨0, by omega, hn 0 6 (by omega), fun s hs => ?_⟩, fun s hs => by omega, fun k hk => ?_, fun r hr => by omega, fun k hk => by omega, fun p hp => Or.inl ⟨hv _ (by omega), hn 14 p (by omega)⟩⟩⟩, ⟨0, 0, by omega, by omega, hx 1 1 (by omega), hx 1 2 (by omega), ?_, fun i hi => by omega⟩, ⟨0, by omega, hx 3 7 (by omega), ?_, fun i hi => by omega⟩, ⟨0, by omega, hx 12 2 (by omega), ?_, fun i hi => by omega⟩⟩
  · rw [hn 0 5 (by omega), hv 0 (by omega)]
  · rw [hn 3 6 (by omega), hv 1 (by omega)]
  · rw [hn 10 2 (by omega), hv 2 (by omega)]
  · rw [hv3, w0_0]; rfl
  · rw [hn 0 8 (by omega), hv 4 (by omega)]
  · rw [hn 13 4 (by omega), hv 5 (by omega)]
  · simp
  · rw [hn 2 k (by omega), hv _ (by omega)]
  · rw [w0_8]; rfl
  · rw [w0_8]; rfl
  · rw [w0_8]; rfl
theorem va_D_adr {A : Nat → Prop} {ws ws' : va_W} (h : va_D A ws) (he : ws'.map Prod.fst = ws.map Prod.fst) : va_D A ws' := by
  have hx : ∀ (i : Nat) (p : Nat × va_E), ws'[i]? = some p → ∃ p0, ws[i]? = some p0 ∧ p0.1 = p.1 := by
    intro i p hp
    have h1 : (ws'.map Prod.fst)[i]? = some p.1 := by rw [List.getElem?_map, hp]; rfl
    rw [he, List.getElem?_map] at h1
    cases hi : ws[i]? with
    | none => rw [hi] at h1; cases h1
    | some p0 => rw [hi] at h1; exact ⟨p0, rfl, Option.some.inj h1⟩
  refine ⟨fun i j p q hi hj e => ?_, fun k q hk => ?_⟩
  · obtain ⟨p0, a1, a2⟩ := hx i p hi
    obtain ⟨q0, b1, b2⟩ := hx j q hj
    exact h.1 i j p0 q0 a1 b1 (by rw [a2, b2]; exact e)
  · obtain ⟨q0, b1, b2⟩ := hx k q hk
    rw [← b2]
    exact h.2 k q0 b1
theorem cell_q {D : va_G} {cl : List vw_C} {a n : Nat} {cA : ClassId} {f f' : Nat → Option Nat} {H : Heap} (h : va_at D cl (a, .inl (cA, n, .inr (.inr (.inr (.inr f))))) H) (hf : ∀ j, j < n → f j = f' j) : va_at D cl (a, .inl (cA, n, .inr (.inr (.inr (.inr f'))))) H := by
  have h1 : H[a]? = some (vp_cell cA (n, .inr (.inr (.inr (.inr f))))) := h
  show H[a]? = some (vp_cell cA (n, .inr (.inr (.inr (.inr f')))))
  have hq : (fun j : Fin n => va_rf (f j.val)) = (fun j : Fin n => va_rf (f' j.val)) := funext fun j => by rw [hf j.val j.isLt]
  rw [h1, vp_cell_q, vp_cell_q]
  show some ({ cls := cA, slots := Array.ofFn (n := n) (fun j => va_rf (f j.val)), vm := .none } : Cell) = _
  rw [hq]
  rfl
