abbrev Wd : Type := Nat → Nat → Nat → Int32
/-- addresses by group and cell; the classes' places; the array classes of int, char, Network -/
abbrev En : Type := (Nat → Nat → Nat) × va_G × ClassId × ClassId × ClassId
def wr (w : Wd) (g c : Nat) (r : Nat → Int32) : Wd := fun g' c' => if g' = g ∧ c' = c then r else w g' c'
def wup (w : Wd) (g c i : Nat) (v : Int32) : Wd := wr w g c (upd (w g c) i v)
def wcp (w : Wd) (g0 c0 g c sp dp n : Nat) : Wd := wr w g c (va_cpy (w g0 c0) (w g c) sp dp n)
def letw {β : Type} (a : Wd) (k : Wd → β) : β := k a
def leti {β : Type} (a : Int32) (k : Int32 → β) : β := k a
def letl {β : Type} (a : Int64) (k : Int64 → β) : β := k a
def ib (i : Int32) (n : Nat) : Bool := decide (¬ (i < 0 ∨ n ≤ i.toNatClampNeg))
theorem ib_in {i : Int32} {n : Nat} (h : ib i n = true) : vp_in i n := of_decide_eq_true (p := ¬ (i < 0 ∨ n ≤ i.toNatClampNeg)) h
def celN (E : En) (g : Nat) (r : Nat → Int32) : Nat → va_E
  | 0 => .inr (4, [.ref (E.1 g 1), .ref (E.1 g 2), .ref (E.1 g 3), .ref (E.1 g 10), .ref (E.1 g 13), .int (r 5), .int (r 6), .int (r 7), .int (r 8)])
  | 1 => .inl (E.2.2.1, 8, .inl r)
  | 2 => .inl (E.2.2.1, 64, .inl r)
  | 3 => .inr (6, [.ref (E.1 g 4), .ref (E.1 g 5), .ref (E.1 g 6), .ref (E.1 g 7), .ref (E.1 g 8), .ref (E.1 g 9), .int (r 6)])
  | 4 => .inl (E.2.2.1, 40, .inl r)
  | 5 => .inl (E.2.2.1, 40, .inl r)
  | 6 => .inl (E.2.2.1, 40, .inl r)
  | 7 => .inl (E.2.2.1, 120, .inl r)
  | 8 => .inl (E.2.2.1, 40, .inl r)
  | 9 => .inl (E.2.2.1, 40, .inl r)
  | 10 => .inr (5, [.ref (E.1 g 11), .ref (E.1 g 12), .int (r 2)])
  | 11 => .inl (E.2.2.1, 30, .inl r)
  | 12 => .inl (E.2.2.1, 30, .inl r)
  | 13 => .inr (0, [.ref (E.1 g 14), .ref (E.1 g 15), .ref (E.1 g 16), .ref (E.1 g 17), .int (r 4)])
  | 14 => .inl (E.2.2.1, 10, .inl r)
  | 15 => .inl (E.2.2.1, 10, .inl r)
  | 16 => .inl (E.2.2.1, 10, .inl r)
  | _ => .inl (E.2.2.1, 60, .inl r)
def celX (E : En) (r : Nat → Int32) : Nat → va_E
  | 0 => .inr (9, [.ref (E.1 0 0), .ref (E.1 1 0), .ref (E.1 7 1), .ref (E.1 7 3), .ref (E.1 7 11), .ref (E.1 7 16)])
  | 1 => .inr (2, [.ref (E.1 7 2), .int (r 1), .int (r 2)])
  | 2 => .inl (E.2.2.2.2, 5, .inr (.inr (.inr (.inr (fun j => some (E.1 (2 + j) 0))))))
  | 3 => .inr (7, [.ref (E.1 7 4), .ref (E.1 7 5), .ref (E.1 7 6), .ref (E.1 7 7), .ref (E.1 7 8), .ref (E.1 7 9), .ref (E.1 7 10), .int (r 7), .int (r 8), .int (r 9)])
  | 4 => .inl (E.2.2.2.1, 80, .inl r)
  | 5 => .inl (E.2.2.2.1, 27, .inl r)
  | 6 => .inl (E.2.2.1, 27, .inl r)
  | 7 => .inl (E.2.2.1, 27, .inl r)
  | 8 => .inl (E.2.2.1, 27, .inl r)
  | 9 => .inl (E.2.2.1, 27, .inl r)
  | 10 => .inl (E.2.2.1, 27, .inl r)
  | 11 => .inr (3, [.ref (E.1 7 12), .ref (E.1 7 15), .int (r 2), .int (r 3), .int (r 4), .int (r 5)])
  | 12 => .inr (8, [.ref (E.1 7 13), .ref (E.1 7 14), .int (r 2)])
  | 13 => .inl (E.2.2.1, 30, .inl r)
  | 14 => .inl (E.2.2.1, 30, .inl r)
  | 15 => .inl (E.2.2.1, 6, .inl r)
  | 16 => .inr (1, [.ref (E.1 7 17), .ref (E.1 7 18), .int (r 2), .int (r 3)])
  | 17 => .inl (E.2.2.1, 64, .inl r)
  | _ => .inl (E.2.2.1, 64, .inl r)
def celM (E : En) (r : Nat → Int32) : Nat → va_E
  | 0 => .inr (10, [.ref (E.1 8 1), .ref (E.1 8 2), .ref (E.1 8 3), .int (r 3), .ref (E.1 8 4), .int (r 5), .ref (E.1 8 5), .ref (E.1 8 6), .ref (E.1 8 7), .ref (E.1 8 8), .ref (E.1 8 9), .ref (E.1 8 10), .int (r 12), .ref (E.1 8 11), .ref (E.1 8 12), .int (r 15), .ref (E.1 8 13), .int (r 17), .ref (E.1 8 14), .int (r 19), .int (r 20), .int (r 21), .ref (E.1 8 15), .ref (E.1 8 16)])
  | 1 => .inl (E.2.2.1, 640, .inl r)
  | 2 => .inl (E.2.2.1, 640, .inl r)
  | 3 => .inl (E.2.2.1, 3200, .inl r)
  | 4 => .inl (E.2.2.1, 14, .inl r)
  | 5 => .inl (E.2.2.1, 8, .inl r)
  | 6 => .inl (E.2.2.1, 8, .inl r)
  | 7 => .inl (E.2.2.1, 320, .inl r)
  | 8 => .inl (E.2.2.1, 8, .inl r)
  | 9 => .inl (E.2.2.1, 8, .inl r)
  | 10 => .inl (E.2.2.1, 8, .inl r)
  | 11 => .inl (E.2.2.1, 30, .inl r)
  | 12 => .inl (E.2.2.1, 30, .inl r)
  | 13 => .inl (E.2.2.1, 8, .inl r)
  | 14 => .inl (E.2.2.1, 80, .inl r)
  | 15 => .inl (E.2.2.1, 80, .inl r)
  | _ => .inl (E.2.2.1, 400, .inl r)
def celR (E : En) (g c : Nat) (r : Nat → Int32) : va_E := if g < 7 then celN E g r c else if g = 7 then celX E r c else celM E r c
def ids : List (Nat × Nat) := (List.range 7).flatMap (fun g => (List.range 18).map (fun c => (g, c))) ++ ((List.range 19).map (fun c => (7, c)) ++ (List.range 17).map (fun c => (8, c)))
theorem ids_n {g c : Nat} (hg : g < 7) (hc : c < 18) : (g, c) ∈ ids := List.mem_append_left _ (List.mem_flatMap.mpr ⟨g, List.mem_range.mpr hg, List.mem_map.mpr ⟨c, List.mem_range.mpr hc, rfl⟩⟩)
theorem ids_x {c : Nat} (hc : c < 19) : (7, c) ∈ ids := List.mem_append_right _ (List.mem_append_left _ (List.mem_map.mpr ⟨c, List.mem_range.mpr hc, rfl⟩))
theorem ids_m {c : Nat} (hc : c < 17) : (8, c) ∈ ids := List.mem_append_right _ (List.mem_append_right _ (List.mem_map.mpr ⟨c, List.mem_range.mpr hc, rfl⟩))
def wl (E : En) (w : Wd) : va_W := ids.map (fun q => (E.1 q.1 q.2, celR E q.1 q.2 (w q.1 q.2)))
def tyl (E : En) : List (ClassId × FieldType) := [(E.2.2.1, .int), (E.2.2.2.1, .char), (E.2.2.2.2, .object RX4)]
def AA (E : En) : Nat → Prop := fun a => ∃ q ∈ ids, a = E.1 q.1 q.2
theorem wl_at {E : En} {w : Wd} {k g c : Nat} (h : ids[k]? = some (g, c)) : (wl E w)[k]? = some (E.1 g c, celR E g c (w g c)) := by
  simp [wl, List.getElem?_map, h]
theorem wl_set {E : En} {w : Wd} {k g c : Nat} {A : Nat → Prop} (h : ids[k]? = some (g, c)) (hD : va_D A (wl E w)) (r : Nat → Int32) : (wl E w).set k (E.1 g c, celR E g c r) = wl E (wr w g c r) := by
  apply List.ext_getElem?
  intro j
  by_cases hj : j = k
  · subst hj
    rw [List.getElem?_set_self (by have := (List.getElem?_eq_some_iff.mp (wl_at (E := E) (w := w) h)).1; exact this), wl_at h]
    simp [wr]
  · rw [List.getElem?_set_ne (Ne.symm hj)]
    simp only [wl, List.getElem?_map]
    cases hq : ids[j]? with
    | none => rfl
    | some q =>
      obtain ⟨g', c'⟩ := q
      have hne : ¬ (g' = g ∧ c' = c) := by
        rintro ⟨rfl, rfl⟩
        exact hj (hD.1 j k _ _ (wl_at hq) (wl_at h) rfl)
      simp [wr, hne]
def OB (E : En) (g c ci : Nat) (fs : (Nat → Int32) → List Value) : Prop := (g, c) ∈ ids ∧ ∀ r, celR E g c r = .inr (ci, fs r)
def AI (E : En) (g c n : Nat) : Prop := (g, c) ∈ ids ∧ ∀ r, celR E g c r = .inl (E.2.2.1, n, .inl r)
def AC (E : En) (g c n : Nat) : Prop := (g, c) ∈ ids ∧ ∀ r, celR E g c r = .inl (E.2.2.2.1, n, .inl r)
def AR (E : En) (g c n : Nat) (f : Nat → Option Nat) : Prop := (g, c) ∈ ids ∧ ∀ r, celR E g c r = .inl (E.2.2.2.2, n, .inr (.inr (.inr (.inr f))))
theorem ce_n_0 {E : En} {n : Nat} (hn : n < 7) : OB E n 0 4 (fun r => [.ref (E.1 n 1), .ref (E.1 n 2), .ref (E.1 n 3), .ref (E.1 n 10), .ref (E.1 n 13), .int (r 5), .int (r 6), .int (r 7), .int (r 8)]) := ⟨ids_n hn (by decide), fun r => if_pos hn⟩
theorem ce_n_1 {E : En} {n : Nat} (hn : n < 7) : AI E n 1 8 := ⟨ids_n hn (by decide), fun r => if_pos hn⟩
theorem ce_n_2 {E : En} {n : Nat} (hn : n < 7) : AI E n 2 64 := ⟨ids_n hn (by decide), fun r => if_pos hn⟩
theorem ce_n_3 {E : En} {n : Nat} (hn : n < 7) : OB E n 3 6 (fun r => [.ref (E.1 n 4), .ref (E.1 n 5), .ref (E.1 n 6), .ref (E.1 n 7), .ref (E.1 n 8), .ref (E.1 n 9), .int (r 6)]) := ⟨ids_n hn (by decide), fun r => if_pos hn⟩
theorem ce_n_4 {E : En} {n : Nat} (hn : n < 7) : AI E n 4 40 := ⟨ids_n hn (by decide), fun r => if_pos hn⟩
theorem ce_n_5 {E : En} {n : Nat} (hn : n < 7) : AI E n 5 40 := ⟨ids_n hn (by decide), fun r => if_pos hn⟩
theorem ce_n_6 {E : En} {n : Nat} (hn : n < 7) : AI E n 6 40 := ⟨ids_n hn (by decide), fun r => if_pos hn⟩
theorem ce_n_7 {E : En} {n : Nat} (hn : n < 7) : AI E n 7 120 := ⟨ids_n hn (by decide), fun r => if_pos hn⟩
theorem ce_n_8 {E : En} {n : Nat} (hn : n < 7) : AI E n 8 40 := ⟨ids_n hn (by decide), fun r => if_pos hn⟩
theorem ce_n_9 {E : En} {n : Nat} (hn : n < 7) : AI E n 9 40 := ⟨ids_n hn (by decide), fun r => if_pos hn⟩
theorem ce_n_10 {E : En} {n : Nat} (hn : n < 7) : OB E n 10 5 (fun r => [.ref (E.1 n 11), .ref (E.1 n 12), .int (r 2)]) := ⟨ids_n hn (by decide), fun r => if_pos hn⟩
theorem ce_n_11 {E : En} {n : Nat} (hn : n < 7) : AI E n 11 30 := ⟨ids_n hn (by decide), fun r => if_pos hn⟩
theorem ce_n_12 {E : En} {n : Nat} (hn : n < 7) : AI E n 12 30 := ⟨ids_n hn (by decide), fun r => if_pos hn⟩
theorem ce_n_13 {E : En} {n : Nat} (hn : n < 7) : OB E n 13 0 (fun r => [.ref (E.1 n 14), .ref (E.1 n 15), .ref (E.1 n 16), .ref (E.1 n 17), .int (r 4)]) := ⟨ids_n hn (by decide), fun r => if_pos hn⟩
theorem ce_n_14 {E : En} {n : Nat} (hn : n < 7) : AI E n 14 10 := ⟨ids_n hn (by decide), fun r => if_pos hn⟩
theorem ce_n_15 {E : En} {n : Nat} (hn : n < 7) : AI E n 15 10 := ⟨ids_n hn (by decide), fun r => if_pos hn⟩
theorem ce_n_16 {E : En} {n : Nat} (hn : n < 7) : AI E n 16 10 := ⟨ids_n hn (by decide), fun r => if_pos hn⟩
theorem ce_n_17 {E : En} {n : Nat} (hn : n < 7) : AI E n 17 60 := ⟨ids_n hn (by decide), fun r => if_pos hn⟩
theorem ce_7_0 {E : En} : OB E 7 0 9 (fun r => [.ref (E.1 0 0), .ref (E.1 1 0), .ref (E.1 7 1), .ref (E.1 7 3), .ref (E.1 7 11), .ref (E.1 7 16)]) := ⟨ids_x (by decide), fun r => rfl⟩
theorem ce_7_1 {E : En} : OB E 7 1 2 (fun r => [.ref (E.1 7 2), .int (r 1), .int (r 2)]) := ⟨ids_x (by decide), fun r => rfl⟩
theorem ce_7_2 {E : En} : AR E 7 2 5 (fun j => some (E.1 (2 + j) 0)) := ⟨ids_x (by decide), fun r => rfl⟩
theorem ce_7_3 {E : En} : OB E 7 3 7 (fun r => [.ref (E.1 7 4), .ref (E.1 7 5), .ref (E.1 7 6), .ref (E.1 7 7), .ref (E.1 7 8), .ref (E.1 7 9), .ref (E.1 7 10), .int (r 7), .int (r 8), .int (r 9)]) := ⟨ids_x (by decide), fun r => rfl⟩
theorem ce_7_4 {E : En} : AC E 7 4 80 := ⟨ids_x (by decide), fun r => rfl⟩
theorem ce_7_5 {E : En} : AC E 7 5 27 := ⟨ids_x (by decide), fun r => rfl⟩
theorem ce_7_6 {E : En} : AI E 7 6 27 := ⟨ids_x (by decide), fun r => rfl⟩
theorem ce_7_7 {E : En} : AI E 7 7 27 := ⟨ids_x (by decide), fun r => rfl⟩
theorem ce_7_8 {E : En} : AI E 7 8 27 := ⟨ids_x (by decide), fun r => rfl⟩
theorem ce_7_9 {E : En} : AI E 7 9 27 := ⟨ids_x (by decide), fun r => rfl⟩
theorem ce_7_10 {E : En} : AI E 7 10 27 := ⟨ids_x (by decide), fun r => rfl⟩
theorem ce_7_11 {E : En} : OB E 7 11 3 (fun r => [.ref (E.1 7 12), .ref (E.1 7 15), .int (r 2), .int (r 3), .int (r 4), .int (r 5)]) := ⟨ids_x (by decide), fun r => rfl⟩
theorem ce_7_12 {E : En} : OB E 7 12 8 (fun r => [.ref (E.1 7 13), .ref (E.1 7 14), .int (r 2)]) := ⟨ids_x (by decide), fun r => rfl⟩
theorem ce_7_13 {E : En} : AI E 7 13 30 := ⟨ids_x (by decide), fun r => rfl⟩
theorem ce_7_14 {E : En} : AI E 7 14 30 := ⟨ids_x (by decide), fun r => rfl⟩
theorem ce_7_15 {E : En} : AI E 7 15 6 := ⟨ids_x (by decide), fun r => rfl⟩
theorem ce_7_16 {E : En} : OB E 7 16 1 (fun r => [.ref (E.1 7 17), .ref (E.1 7 18), .int (r 2), .int (r 3)]) := ⟨ids_x (by decide), fun r => rfl⟩
theorem ce_7_17 {E : En} : AI E 7 17 64 := ⟨ids_x (by decide), fun r => rfl⟩
theorem ce_7_18 {E : En} : AI E 7 18 64 := ⟨ids_x (by decide), fun r => rfl⟩
theorem ce_8_0 {E : En} : OB E 8 0 10 (fun r => [.ref (E.1 8 1), .ref (E.1 8 2), .ref (E.1 8 3), .int (r 3), .ref (E.1 8 4), .int (r 5), .ref (E.1 8 5), .ref (E.1 8 6), .ref (E.1 8 7), .ref (E.1 8 8), .ref (E.1 8 9), .ref (E.1 8 10), .int (r 12), .ref (E.1 8 11), .ref (E.1 8 12), .int (r 15), .ref (E.1 8 13), .int (r 17), .ref (E.1 8 14), .int (r 19), .int (r 20), .int (r 21), .ref (E.1 8 15), .ref (E.1 8 16)]) := ⟨ids_m (by decide), fun r => rfl⟩
theorem ce_8_1 {E : En} : AI E 8 1 640 := ⟨ids_m (by decide), fun r => rfl⟩
theorem ce_8_2 {E : En} : AI E 8 2 640 := ⟨ids_m (by decide), fun r => rfl⟩
theorem ce_8_3 {E : En} : AI E 8 3 3200 := ⟨ids_m (by decide), fun r => rfl⟩
theorem ce_8_4 {E : En} : AI E 8 4 14 := ⟨ids_m (by decide), fun r => rfl⟩
theorem ce_8_5 {E : En} : AI E 8 5 8 := ⟨ids_m (by decide), fun r => rfl⟩
theorem ce_8_6 {E : En} : AI E 8 6 8 := ⟨ids_m (by decide), fun r => rfl⟩
theorem ce_8_7 {E : En} : AI E 8 7 320 := ⟨ids_m (by decide), fun r => rfl⟩
theorem ce_8_8 {E : En} : AI E 8 8 8 := ⟨ids_m (by decide), fun r => rfl⟩
theorem ce_8_9 {E : En} : AI E 8 9 8 := ⟨ids_m (by decide), fun r => rfl⟩
theorem ce_8_10 {E : En} : AI E 8 10 8 := ⟨ids_m (by decide), fun r => rfl⟩
theorem ce_8_11 {E : En} : AI E 8 11 30 := ⟨ids_m (by decide), fun r => rfl⟩
theorem ce_8_12 {E : En} : AI E 8 12 30 := ⟨ids_m (by decide), fun r => rfl⟩
theorem ce_8_13 {E : En} : AI E 8 13 8 := ⟨ids_m (by decide), fun r => rfl⟩
theorem ce_8_14 {E : En} : AI E 8 14 80 := ⟨ids_m (by decide), fun r => rfl⟩
theorem ce_8_15 {E : En} : AI E 8 15 80 := ⟨ids_m (by decide), fun r => rfl⟩
theorem ce_8_16 {E : En} : AI E 8 16 400 := ⟨ids_m (by decide), fun r => rfl⟩
/-! locals by their places -/
def lh (ls : Array Slot) (nL : Nat) (lv : List (Option Value)) : Prop := ls.size = nL ∧ lv_wf ls ∧ ∀ (i : Nat) (v : Value), lv[i]? = some (some v) → ls[i]? = some (.val v)
def lprs : Nat → List (Option Value) → List (Nat × Value)
  | _, [] => []
  | i, none :: t => lprs (i + 1) t
  | i, some v :: t => (i, v) :: lprs (i + 1) t
theorem mem_lprs (j : Nat) (v : Value) : ∀ (lv : List (Option Value)) (i : Nat), (j, v) ∈ lprs i lv ↔ ∃ k, lv[k]? = some (some v) ∧ j = i + k
  | [], i => by simp [lprs]
  | none :: t, i => by
    rw [lprs, mem_lprs j v t (i + 1)]
    constructor
    · rintro ⟨k, h1, h2⟩
      exact ⟨k + 1, by simpa using h1, by omega⟩
    · rintro ⟨k, h1, h2⟩
      cases k with
      | zero => simp at h1
      | succ k => exact ⟨k, by simpa using h1, by omega⟩
  | some u :: t, i => by
    rw [lprs, List.mem_cons, mem_lprs j v t (i + 1)]
    constructor
    · rintro (h | ⟨k, h1, h2⟩)
      · cases h
        exact ⟨0, by simp, by omega⟩
      · exact ⟨k + 1, by simpa using h1, by omega⟩
    · rintro ⟨k, h1, h2⟩
      cases k with
      | zero =>
        simp at h1
        subst h1
        exact Or.inl (by rw [h2]; rfl)
      | succ k => exact Or.inr ⟨k, by simpa using h1, by omega⟩
theorem lh_has {ls : Array Slot} {nL : Nat} {lv : List (Option Value)} (h : lh ls nL lv) : lv_has ls nL (lprs 0 lv) := by
  refine ⟨h.1, h.2.1, fun q hq => ?_⟩
  obtain ⟨k, h1, h2⟩ := (mem_lprs q.1 q.2 lv 0).mp hq
  rw [h2, Nat.zero_add]
  exact h.2.2 k q.2 h1
theorem has_lh {ls : Array Slot} {nL : Nat} {lv : List (Option Value)} (h : lv_has ls nL (lprs 0 lv)) : lh ls nL lv :=
  ⟨h.1, h.2.1, fun i v hv => h.2.2 (i, v) ((mem_lprs i v lv 0).mpr ⟨i, hv, by omega⟩)⟩
def lok (lv : List (Option Value)) (i : Nat) : Bool := i == 0 || (match lv[i - 1]? with
  | some (some u) => u.category == 1
  | _ => true)
theorem lok_of {lv : List (Option Value)} {i j : Nat} {u : Value} (h : lok lv i = true) (hj : j + 1 = i) (hu : lv[j]? = some (some u)) : ¬ u.category = 2 := by
  subst hj
  simp [lok, hu] at h
  omega
theorem lh_store1 {ls : Array Slot} {nL i : Nat} {v : Value} {lv : List (Option Value)} (hok : lok lv i = true) (h : lv_has ls nL ((i, v) :: (lprs 0 lv).filter (fun q => !(q.1 == i) && !(q.1 + 1 == i && q.2.category == 2)))) : lh ls nL (lv.set i (some v)) := by
  refine ⟨h.1, h.2.1, fun j u hu => ?_⟩
  by_cases hj : j = i
  · subst hj
    by_cases hl : j < lv.length
    · rw [List.getElem?_set_self hl] at hu
      cases hu
      exact h.2.2 (j, v) List.mem_cons_self
    · rw [List.set_eq_of_length_le (by omega)] at hu
      rw [List.getElem?_eq_none (by omega)] at hu
      cases hu
  · rw [List.getElem?_set_ne (Ne.symm hj)] at hu
    refine h.2.2 (j, u) (List.mem_cons_of_mem _ (List.mem_filter.mpr ⟨(mem_lprs j u lv 0).mpr ⟨j, hu, by omega⟩, ?_⟩))
    by_cases hi : j + 1 = i
    · have := lok_of hok hi hu
      simp [hj, this]
    · simp [hj, hi]
theorem lh_store2 {ls : Array Slot} {nL i : Nat} {v : Value} {lv : List (Option Value)} (hok : lok lv i = true) (h : lv_has ls nL ((i, v) :: (lprs 0 lv).filter (fun q => !(q.1 == i) && (!(q.1 == i + 1) && !(q.1 + 1 == i && q.2.category == 2))))) : lh ls nL ((lv.set i (some v)).set (i + 1) none) := by
  refine ⟨h.1, h.2.1, fun j u hu => ?_⟩
  by_cases h1 : j = i + 1
  · subst h1
    by_cases hl : i + 1 < (lv.set i (some v)).length
    · rw [List.getElem?_set_self hl] at hu
      cases hu
    · rw [List.getElem?_eq_none (by simpa using Nat.not_lt.mp hl)] at hu
      cases hu
  · rw [List.getElem?_set_ne (Ne.symm h1)] at hu
    by_cases hj : j = i
    · subst hj
      by_cases hl : j < lv.length
      · rw [List.getElem?_set_self hl] at hu
        cases hu
        exact h.2.2 (j, v) List.mem_cons_self
      · rw [List.set_eq_of_length_le (by omega)] at hu
        rw [List.getElem?_eq_none (by omega)] at hu
        cases hu
    · rw [List.getElem?_set_ne (Ne.symm hj)] at hu
      refine h.2.2 (j, u) (List.mem_cons_of_mem _ (List.mem_filter.mpr ⟨(mem_lprs j u lv 0).mpr ⟨j, hu, by omega⟩, ?_⟩))
      by_cases hi : j + 1 = i
      · have := lok_of hok hi hu
        simp [hj, h1, this]
      · simp [hj, h1, hi]
/-! the judgements -/
def NWs (s : State) : Prop := ∀ w ∈ lw_tbl, isNest w = true → va_Nw w s
def Wk (E : En) (w : Wd) (U : State) : Prop := va_P E.2.1 vwCl (wl E w) U.heap ∧ va_K E.2.1 vwCl (tyl E) U ∧ va_D (AA E) (wl E w) ∧ NWs U
def Qm (E : En) (r : Option Value) (w' : Wd) : Array Value → State → Outcome → State → Prop := fun _ st oc t => oc = .returned r ∧ va_P E.2.1 vwCl (wl E w') t.heap ∧ va_K E.2.1 vwCl (tyl E) t ∧ va_D (AA E) (wl E w') ∧ va_F (AA E) st t
def Mt (l : Launch) (E : En) (y : MethodName) (cc : ByteArray) (n : Nat) (ret : Option FieldType) (rm : Room) (as : List Value) (w : Wd) (r : Option Value) (w' : Wd) : Prop :=
  Met l y (.code y cc n ret :: gwl) rm (va_Pc as (Wk E w)) (Qm E r w') 0 0 (AA E)
def Cx (E : En) (cc : ByteArray) (nL : Nat) (own : String) (rt : Option FieldType) (p : Program) (s : State) (m : MethodId) (args : Array Value) (meth : Method) (c : Code) : Prop :=
  p.tables.exec = Jvm.exec ∧ c.code = cc ∧ c.maxLocals = nL ∧ s.vm.findClass own = some m.cls ∧ (∀ w ∈ gwl, w.before args s = true) ∧ NWs s ∧ meth.sig.returnType = rt ∧ meth.locks = false ∧ va_K E.2.1 vwCl (tyl E) s
def Gm {α : Type} (l : Launch) (E : En) (cc : ByteArray) (nL : Nat) (own : String) (rt : Option FieldType) (R : Room) (en : α → Option Value) (res : Option (α × Wd)) (w : Wd) (pc : Nat) (lv : List (Option Value)) (st : List Value) : Prop :=
  ∀ q, res = some q → ∀ (p : Program) (e : Env) (s : State) (m : MethodId) (args : Array Value) (below : List Frame) (meth : Method) (c : Code) (H : Heap) (locs : List Loc) (ls : Array Slot), Cx E cc nL own rt p s m args meth c → va_P E.2.1 vwCl (wl E w) H → va_D (AA E) (wl E w) → va_S (AA E) s.heap H locs → lh ls nL lv →
    W p l e R s m args below meth c H locs 0 0 (MQ below (Qm E (en q.1) q.2) args s 0 0 (AA E)) (F0 m pc ls st)
def eI : Int32 → Option Value := fun r => some (.int r)
def eL : Int64 → Option Value := fun r => some (.long r)
def eV : Unit → Option Value := fun _ => none
def eR (E : En) (c : Nat) : Nat → Option Value := fun g => some (.ref (E.1 g c))
theorem isNest_on {w : Cond} (h : isNest w = true) : w.onTables = true := by
  cases w <;> first | rfl | (simp [isNest] at h)
theorem NWs.warm {s U : State} (hW : s.WarmedH U.vm) (h : NWs s) : NWs U := by
  intro w hw hn
  cases w <;> first | (simp [isNest] at hn; done) | exact va_Nw.warmM hW (h _ hw hn)
theorem Wk.blind {E : En} {w : Wd} {as : List Value} : FrameBlind (va_Pc as (Wk E w)) := by
  intro a U g mk q
  obtain ⟨q0, qP, qK, qD, qN⟩ := q
  exact ⟨q0, qP, va_K.moved (u := U) (U := U.calling g mk a) (Vm.Alike.refl U.vm) qK, qD, fun w hw hn => va_Nw.same (u := U) (U := U.calling g mk a) (isNest_on hn) rfl (qN w hw hn)⟩

section GM
variable {α : Type} {l : Launch} {E : En} {cc : ByteArray} {nL : Nat} {own : String} {rt : Option FieldType} {R : Room} {en : α → Option Value} {res A B : Option (α × Wd)} {w : Wd} {pc : Nat} {lv : List (Option Value)} {st : List Value}
theorem gm_iconst {n : Int} {v : Int32} (hd : decode cc pc = .ok (.iconst n, 1)) (hv : Int32.ofInt n = v) (h : Gm l E cc nL own rt R en (res) (w) (pc + 1) (lv) (.int v :: st)) : Gm l E cc nL own rt R en (res) (w) (pc) (lv) (st) := by
  intro q hq p e s m args below meth c H locs ls hC hP hD hS hl
  exact lv_iconst hC.1 hC.2.1 hd hv (h q hq p e s m args below meth c H locs ls hC hP hD hS hl)
theorem gm_bipush {n : Int} {v : Int32} (hd : decode cc pc = .ok (.bipush n, 2)) (hv : (Int8.ofInt n).toInt32 = v) (h : Gm l E cc nL own rt R en (res) (w) (pc + 2) (lv) (.int v :: st)) : Gm l E cc nL own rt R en (res) (w) (pc) (lv) (st) := by
  intro q hq p e s m args below meth c H locs ls hC hP hD hS hl
  exact lv_bipush hC.1 hC.2.1 hd hv (h q hq p e s m args below meth c H locs ls hC hP hD hS hl)
theorem gm_sipush {n : Int} {v : Int32} (hd : decode cc pc = .ok (.sipush n, 3)) (hv : (Int16.ofInt n).toInt32 = v) (h : Gm l E cc nL own rt R en (res) (w) (pc + 3) (lv) (.int v :: st)) : Gm l E cc nL own rt R en (res) (w) (pc) (lv) (st) := by
  intro q hq p e s m args below meth c H locs ls hC hP hD hS hl
  exact lv_sipush hC.1 hC.2.1 hd hv (h q hq p e s m args below meth c H locs ls hC hP hD hS hl)
theorem gm_lconst {n : Fin 2} {v : Int64} (hd : decode cc pc = .ok (.lconst n, 1)) (hv : Int64.ofNat (n : Nat) = v) (h : Gm l E cc nL own rt R en (res) (w) (pc + 1) (lv) (.long v :: st)) : Gm l E cc nL own rt R en (res) (w) (pc) (lv) (st) := by
  intro q hq p e s m args below meth c H locs ls hC hP hD hS hl
  exact lv_lconst hC.1 hC.2.1 hd hv (h q hq p e s m args below meth c H locs ls hC hP hD hS hl)
theorem gm_ldc {i : Nat} {v : Int32} (hd : decode cc pc = .ok (.ldc i, 2)) (hc : Cond.constant own i v ∈ lw_tbl) (h : Gm l E cc nL own rt R en (res) (w) (pc + 2) (lv) (.int v :: st)) : Gm l E cc nL own rt R en (res) (w) (pc) (lv) (st) := by
  intro q hq p e s m args below meth c H locs ls hC hP hD hS hl
  exact lv_ldc hC.1 hC.2.1 hC.2.2.2.1 (hC.2.2.2.2.1 _ (gw_in hc rfl)) hd (h q hq p e s m args below meth c H locs ls hC hP hD hS hl)
theorem gm_ldcw {i : Nat} {v : Int32} (hd : decode cc pc = .ok (.ldc_w i, 3)) (hc : Cond.constant own i v ∈ lw_tbl) (h : Gm l E cc nL own rt R en (res) (w) (pc + 3) (lv) (.int v :: st)) : Gm l E cc nL own rt R en (res) (w) (pc) (lv) (st) := by
  intro q hq p e s m args below meth c H locs ls hC hP hD hS hl
  exact lv_ldcw hC.1 hC.2.1 hC.2.2.2.1 (hC.2.2.2.2.1 _ (gw_in hc rfl)) hd (h q hq p e s m args below meth c H locs ls hC hP hD hS hl)
theorem gm_ldc2 {i : Nat} {v : Int64} (hd : decode cc pc = .ok (.ldc2_w i, 3)) (hc : Cond.constantLong own i v ∈ lw_tbl) (h : Gm l E cc nL own rt R en (res) (w) (pc + 3) (lv) (.long v :: st)) : Gm l E cc nL own rt R en (res) (w) (pc) (lv) (st) := by
  intro q hq p e s m args below meth c H locs ls hC hP hD hS hl
  exact lv_ldc2 hC.1 hC.2.1 hC.2.2.2.1 (hC.2.2.2.2.1 _ (gw_in hc rfl)) hd (h q hq p e s m args below meth c H locs ls hC hP hD hS hl)
theorem gm_iload_n {k : Fin 4} {i : Nat} {x : Int32} (hd : decode cc pc = .ok (.iload_n k, 1)) (hi : (k : Nat) = i) (hx : lv[i]? = some (some (.int x))) (h : Gm l E cc nL own rt R en (res) (w) (pc + 1) (lv) (.int x :: st)) : Gm l E cc nL own rt R en (res) (w) (pc) (lv) (st) := by
  intro q hq p e s m args below meth c H locs ls hC hP hD hS hl
  exact lv_iload_n hC.1 hC.2.1 hd hi (hl.2.2 i _ hx) (h q hq p e s m args below meth c H locs ls hC hP hD hS hl)
theorem gm_iload {i : Nat} {x : Int32} (hd : decode cc pc = .ok (.iload i, 2)) (hx : lv[i]? = some (some (.int x))) (h : Gm l E cc nL own rt R en (res) (w) (pc + 2) (lv) (.int x :: st)) : Gm l E cc nL own rt R en (res) (w) (pc) (lv) (st) := by
  intro q hq p e s m args below meth c H locs ls hC hP hD hS hl
  exact lv_iload hC.1 hC.2.1 hd (hl.2.2 i _ hx) (h q hq p e s m args below meth c H locs ls hC hP hD hS hl)
theorem gm_lload_n {k : Fin 4} {i : Nat} {x : Int64} (hd : decode cc pc = .ok (.lload_n k, 1)) (hi : (k : Nat) = i) (hx : lv[i]? = some (some (.long x))) (h : Gm l E cc nL own rt R en (res) (w) (pc + 1) (lv) (.long x :: st)) : Gm l E cc nL own rt R en (res) (w) (pc) (lv) (st) := by
  intro q hq p e s m args below meth c H locs ls hC hP hD hS hl
  exact lv_lload_n hC.1 hC.2.1 hd hi (hl.2.2 i _ hx) (h q hq p e s m args below meth c H locs ls hC hP hD hS hl)
theorem gm_lload {i : Nat} {x : Int64} (hd : decode cc pc = .ok (.lload i, 2)) (hx : lv[i]? = some (some (.long x))) (h : Gm l E cc nL own rt R en (res) (w) (pc + 2) (lv) (.long x :: st)) : Gm l E cc nL own rt R en (res) (w) (pc) (lv) (st) := by
  intro q hq p e s m args below meth c H locs ls hC hP hD hS hl
  exact lv_lload hC.1 hC.2.1 hd (hl.2.2 i _ hx) (h q hq p e s m args below meth c H locs ls hC hP hD hS hl)
theorem gm_aload_n {k : Fin 4} {i : Nat} {x : Nat} (hd : decode cc pc = .ok (.aload_n k, 1)) (hi : (k : Nat) = i) (hx : lv[i]? = some (some (.ref x))) (h : Gm l E cc nL own rt R en (res) (w) (pc + 1) (lv) (.ref x :: st)) : Gm l E cc nL own rt R en (res) (w) (pc) (lv) (st) := by
  intro q hq p e s m args below meth c H locs ls hC hP hD hS hl
  exact lv_aload_n hC.1 hC.2.1 hd hi (hl.2.2 i _ hx) (h q hq p e s m args below meth c H locs ls hC hP hD hS hl)
theorem gm_aload {i : Nat} {x : Nat} (hd : decode cc pc = .ok (.aload i, 2)) (hx : lv[i]? = some (some (.ref x))) (h : Gm l E cc nL own rt R en (res) (w) (pc + 2) (lv) (.ref x :: st)) : Gm l E cc nL own rt R en (res) (w) (pc) (lv) (st) := by
  intro q hq p e s m args below meth c H locs ls hC hP hD hS hl
  exact lv_aload hC.1 hC.2.1 hd (hl.2.2 i _ hx) (h q hq p e s m args below meth c H locs ls hC hP hD hS hl)
theorem gm_istore {i : Nat} {x : Int32} {lv' : List (Option Value)} (hd : decode cc pc = .ok (.istore i, 2)) (hn : i < nL) (hok : lok lv i = true) (hlv : (lv.set i (some (.int x))) = lv') (h : Gm l E cc nL own rt R en (res) (w) (pc + 2) (lv') (st)) : Gm l E cc nL own rt R en (res) (w) (pc) (lv) (.int x :: st) := by
  intro q hq p e s m args below meth c H locs ls hC hP hD hS hl
  subst hlv
  exact lv_istore hC.1 hC.2.1 hd (lh_has hl) hn rfl (fun ls hl2 => h q hq p e s m args below meth c H locs ls hC hP hD hS (lh_store1 hok hl2))
theorem gm_istore_n {k : Fin 4} {i : Nat} {x : Int32} {lv' : List (Option Value)} (hd : decode cc pc = .ok (.istore_n k, 1)) (hi : (k : Nat) = i) (hn : i < nL) (hok : lok lv i = true) (hlv : (lv.set i (some (.int x))) = lv') (h : Gm l E cc nL own rt R en (res) (w) (pc + 1) (lv') (st)) : Gm l E cc nL own rt R en (res) (w) (pc) (lv) (.int x :: st) := by
  intro q hq p e s m args below meth c H locs ls hC hP hD hS hl
  subst hlv
  exact lv_istore_n hC.1 hC.2.1 hd hi (lh_has hl) hn rfl (fun ls hl2 => h q hq p e s m args below meth c H locs ls hC hP hD hS (lh_store1 hok hl2))
theorem gm_lstore {i : Nat} {x : Int64} {lv' : List (Option Value)} (hd : decode cc pc = .ok (.lstore i, 2)) (hn : i + 1 < nL) (hok : lok lv i = true) (hlv : ((lv.set i (some (.long x))).set (i + 1) none) = lv') (h : Gm l E cc nL own rt R en (res) (w) (pc + 2) (lv') (st)) : Gm l E cc nL own rt R en (res) (w) (pc) (lv) (.long x :: st) := by
  intro q hq p e s m args below meth c H locs ls hC hP hD hS hl
  subst hlv
  exact lv_lstore hC.1 hC.2.1 hd (lh_has hl) hn rfl (fun ls hl2 => h q hq p e s m args below meth c H locs ls hC hP hD hS (lh_store2 hok hl2))
theorem gm_lstore_n {k : Fin 4} {i : Nat} {x : Int64} {lv' : List (Option Value)} (hd : decode cc pc = .ok (.lstore_n k, 1)) (hi : (k : Nat) = i) (hn : i + 1 < nL) (hok : lok lv i = true) (hlv : ((lv.set i (some (.long x))).set (i + 1) none) = lv') (h : Gm l E cc nL own rt R en (res) (w) (pc + 1) (lv') (st)) : Gm l E cc nL own rt R en (res) (w) (pc) (lv) (.long x :: st) := by
  intro q hq p e s m args below meth c H locs ls hC hP hD hS hl
  subst hlv
  exact lv_lstore_n hC.1 hC.2.1 hd hi (lh_has hl) hn rfl (fun ls hl2 => h q hq p e s m args below meth c H locs ls hC hP hD hS (lh_store2 hok hl2))
theorem gm_astore {i : Nat} {x : Nat} {lv' : List (Option Value)} (hd : decode cc pc = .ok (.astore i, 2)) (hn : i < nL) (hok : lok lv i = true) (hlv : (lv.set i (some (.ref x))) = lv') (h : Gm l E cc nL own rt R en (res) (w) (pc + 2) (lv') (st)) : Gm l E cc nL own rt R en (res) (w) (pc) (lv) (.ref x :: st) := by
  intro q hq p e s m args below meth c H locs ls hC hP hD hS hl
  subst hlv
  exact lv_astore hC.1 hC.2.1 hd (lh_has hl) hn rfl (fun ls hl2 => h q hq p e s m args below meth c H locs ls hC hP hD hS (lh_store1 hok hl2))
theorem gm_astore_n {k : Fin 4} {i : Nat} {x : Nat} {lv' : List (Option Value)} (hd : decode cc pc = .ok (.astore_n k, 1)) (hi : (k : Nat) = i) (hn : i < nL) (hok : lok lv i = true) (hlv : (lv.set i (some (.ref x))) = lv') (h : Gm l E cc nL own rt R en (res) (w) (pc + 1) (lv') (st)) : Gm l E cc nL own rt R en (res) (w) (pc) (lv) (.ref x :: st) := by
  intro q hq p e s m args below meth c H locs ls hC hP hD hS hl
  subst hlv
  exact lv_astore_n hC.1 hC.2.1 hd hi (lh_has hl) hn rfl (fun ls hl2 => h q hq p e s m args below meth c H locs ls hC hP hD hS (lh_store1 hok hl2))
theorem gm_iinc {i : Nat} {n : Int} {x v : Int32} {lv' : List (Option Value)} (hd : decode cc pc = .ok (.iinc i n, 3)) (hx : lv[i]? = some (some (.int x))) (hv : Int32.ofInt n = v) (hn : i < nL) (hok : lok lv i = true) (hlv : (lv.set i (some (.int (x + v)))) = lv') (h : Gm l E cc nL own rt R en (res) (w) (pc + 3) (lv') (st)) : Gm l E cc nL own rt R en (res) (w) (pc) (lv) (st) := by
  intro q hq p e s m args below meth c H locs ls hC hP hD hS hl
  subst hlv
  subst hv
  obtain ⟨k, hk⟩ := List.getElem?_of_mem ((mem_lprs i (.int x) lv 0).mpr ⟨i, hx, by omega⟩)
  exact lv_iinc hC.1 hC.2.1 hd (lh_has hl) hk rfl hn rfl (fun ls hl2 => h q hq p e s m args below meth c H locs ls hC hP hD hS (lh_store1 hok hl2))
theorem gm_iadd {x y : Int32} (hd : decode cc pc = .ok (.iadd, 1)) (h : Gm l E cc nL own rt R en (res) (w) (pc + 1) (lv) (.int (x + y) :: st)) : Gm l E cc nL own rt R en (res) (w) (pc) (lv) (.int y :: .int x :: st) := by
  intro q hq p e s m args below meth c H locs ls hC hP hD hS hl
  exact lv_iadd hC.1 hC.2.1 hd (h q hq p e s m args below meth c H locs ls hC hP hD hS hl)
theorem gm_isub {x y : Int32} (hd : decode cc pc = .ok (.isub, 1)) (h : Gm l E cc nL own rt R en (res) (w) (pc + 1) (lv) (.int (x - y) :: st)) : Gm l E cc nL own rt R en (res) (w) (pc) (lv) (.int y :: .int x :: st) := by
  intro q hq p e s m args below meth c H locs ls hC hP hD hS hl
  exact lv_isub hC.1 hC.2.1 hd (h q hq p e s m args below meth c H locs ls hC hP hD hS hl)
theorem gm_imul {x y : Int32} (hd : decode cc pc = .ok (.imul, 1)) (h : Gm l E cc nL own rt R en (res) (w) (pc + 1) (lv) (.int (x * y) :: st)) : Gm l E cc nL own rt R en (res) (w) (pc) (lv) (.int y :: .int x :: st) := by
  intro q hq p e s m args below meth c H locs ls hC hP hD hS hl
  exact lv_imul hC.1 hC.2.1 hd (h q hq p e s m args below meth c H locs ls hC hP hD hS hl)
theorem gm_iand {x y : Int32} (hd : decode cc pc = .ok (.iand, 1)) (h : Gm l E cc nL own rt R en (res) (w) (pc + 1) (lv) (.int (x &&& y) :: st)) : Gm l E cc nL own rt R en (res) (w) (pc) (lv) (.int y :: .int x :: st) := by
  intro q hq p e s m args below meth c H locs ls hC hP hD hS hl
  exact lv_iand hC.1 hC.2.1 hd (h q hq p e s m args below meth c H locs ls hC hP hD hS hl)
theorem gm_ior {x y : Int32} (hd : decode cc pc = .ok (.ior, 1)) (h : Gm l E cc nL own rt R en (res) (w) (pc + 1) (lv) (.int (x ||| y) :: st)) : Gm l E cc nL own rt R en (res) (w) (pc) (lv) (.int y :: .int x :: st) := by
  intro q hq p e s m args below meth c H locs ls hC hP hD hS hl
  exact lv_ior hC.1 hC.2.1 hd (h q hq p e s m args below meth c H locs ls hC hP hD hS hl)
theorem gm_ixor {x y : Int32} (hd : decode cc pc = .ok (.ixor, 1)) (h : Gm l E cc nL own rt R en (res) (w) (pc + 1) (lv) (.int (x ^^^ y) :: st)) : Gm l E cc nL own rt R en (res) (w) (pc) (lv) (.int y :: .int x :: st) := by
  intro q hq p e s m args below meth c H locs ls hC hP hD hS hl
  exact lv_ixor hC.1 hC.2.1 hd (h q hq p e s m args below meth c H locs ls hC hP hD hS hl)
theorem gm_ishl {x y : Int32} (hd : decode cc pc = .ok (.ishl, 1)) (h : Gm l E cc nL own rt R en (res) (w) (pc + 1) (lv) (.int (x <<< (y &&& 31)) :: st)) : Gm l E cc nL own rt R en (res) (w) (pc) (lv) (.int y :: .int x :: st) := by
  intro q hq p e s m args below meth c H locs ls hC hP hD hS hl
  exact lv_ishl hC.1 hC.2.1 hd (h q hq p e s m args below meth c H locs ls hC hP hD hS hl)
theorem gm_ishr {x y : Int32} (hd : decode cc pc = .ok (.ishr, 1)) (h : Gm l E cc nL own rt R en (res) (w) (pc + 1) (lv) (.int (x >>> (y &&& 31)) :: st)) : Gm l E cc nL own rt R en (res) (w) (pc) (lv) (.int y :: .int x :: st) := by
  intro q hq p e s m args below meth c H locs ls hC hP hD hS hl
  exact lv_ishr hC.1 hC.2.1 hd (h q hq p e s m args below meth c H locs ls hC hP hD hS hl)
theorem gm_iushr {x y v : Int32} (hd : decode cc pc = .ok (.iushr, 1)) (hv : (x.toUInt32 >>> (y.toUInt32 &&& Int32.toUInt32 31)).toInt32 = v) (h : Gm l E cc nL own rt R en (res) (w) (pc + 1) (lv) (.int v :: st)) : Gm l E cc nL own rt R en (res) (w) (pc) (lv) (.int y :: .int x :: st) := by
  intro q hq p e s m args below meth c H locs ls hC hP hD hS hl
  exact lv_iushr hC.1 hC.2.1 hd hv (h q hq p e s m args below meth c H locs ls hC hP hD hS hl)
theorem gm_ineg {x : Int32} (hd : decode cc pc = .ok (.ineg, 1)) (h : Gm l E cc nL own rt R en (res) (w) (pc + 1) (lv) (.int (-x) :: st)) : Gm l E cc nL own rt R en (res) (w) (pc) (lv) (.int x :: st) := by
  intro q hq p e s m args below meth c H locs ls hC hP hD hS hl
  exact lv_ineg hC.1 hC.2.1 hd (h q hq p e s m args below meth c H locs ls hC hP hD hS hl)
theorem gm_idiv {x y : Int32} (hd : decode cc pc = .ok (.idiv, 1)) (hne : ¬ y = 0) (h : Gm l E cc nL own rt R en (res) (w) (pc + 1) (lv) (.int (x / y) :: st)) : Gm l E cc nL own rt R en (res) (w) (pc) (lv) (.int y :: .int x :: st) := by
  intro q hq p e s m args below meth c H locs ls hC hP hD hS hl
  exact lv_idiv hC.1 hC.2.1 hd hne (h q hq p e s m args below meth c H locs ls hC hP hD hS hl)
theorem gm_idiv_g {x y : Int32} (hd : decode cc pc = .ok (.idiv, 1)) (h : Gm l E cc nL own rt R en (res) (w) (pc + 1) (lv) (.int (x / y) :: st)) : Gm l E cc nL own rt R en (if y = 0 then none else res) (w) (pc) (lv) (.int y :: .int x :: st) := by
  intro q hq p e s m args below meth c H locs ls hC hP hD hS hl
  by_cases hne : y = 0
  · rw [if_pos hne] at hq; cases hq
  · rw [if_neg hne] at hq
    exact lv_idiv hC.1 hC.2.1 hd hne (h q hq p e s m args below meth c H locs ls hC hP hD hS hl)
theorem gm_irem {x y : Int32} (hd : decode cc pc = .ok (.irem, 1)) (hne : ¬ y = 0) (h : Gm l E cc nL own rt R en (res) (w) (pc + 1) (lv) (.int (x - x / y * y) :: st)) : Gm l E cc nL own rt R en (res) (w) (pc) (lv) (.int y :: .int x :: st) := by
  intro q hq p e s m args below meth c H locs ls hC hP hD hS hl
  exact lv_irem hC.1 hC.2.1 hd hne (h q hq p e s m args below meth c H locs ls hC hP hD hS hl)
theorem gm_irem_g {x y : Int32} (hd : decode cc pc = .ok (.irem, 1)) (h : Gm l E cc nL own rt R en (res) (w) (pc + 1) (lv) (.int (x - x / y * y) :: st)) : Gm l E cc nL own rt R en (if y = 0 then none else res) (w) (pc) (lv) (.int y :: .int x :: st) := by
  intro q hq p e s m args below meth c H locs ls hC hP hD hS hl
  by_cases hne : y = 0
  · rw [if_pos hne] at hq; cases hq
  · rw [if_neg hne] at hq
    exact lv_irem hC.1 hC.2.1 hd hne (h q hq p e s m args below meth c H locs ls hC hP hD hS hl)
theorem gm_ladd {x y : Int64} (hd : decode cc pc = .ok (.ladd, 1)) (h : Gm l E cc nL own rt R en (res) (w) (pc + 1) (lv) (.long (x + y) :: st)) : Gm l E cc nL own rt R en (res) (w) (pc) (lv) (.long y :: .long x :: st) := by
  intro q hq p e s m args below meth c H locs ls hC hP hD hS hl
  exact lv_ladd hC.1 hC.2.1 hd (h q hq p e s m args below meth c H locs ls hC hP hD hS hl)
theorem gm_lsub {x y : Int64} (hd : decode cc pc = .ok (.lsub, 1)) (h : Gm l E cc nL own rt R en (res) (w) (pc + 1) (lv) (.long (x - y) :: st)) : Gm l E cc nL own rt R en (res) (w) (pc) (lv) (.long y :: .long x :: st) := by
  intro q hq p e s m args below meth c H locs ls hC hP hD hS hl
  exact lv_lsub hC.1 hC.2.1 hd (h q hq p e s m args below meth c H locs ls hC hP hD hS hl)
theorem gm_lmul {x y : Int64} (hd : decode cc pc = .ok (.lmul, 1)) (h : Gm l E cc nL own rt R en (res) (w) (pc + 1) (lv) (.long (x * y) :: st)) : Gm l E cc nL own rt R en (res) (w) (pc) (lv) (.long y :: .long x :: st) := by
  intro q hq p e s m args below meth c H locs ls hC hP hD hS hl
  exact lv_lmul hC.1 hC.2.1 hd (h q hq p e s m args below meth c H locs ls hC hP hD hS hl)
theorem gm_ldiv {x y : Int64} (hd : decode cc pc = .ok (.ldiv, 1)) (hne : ¬ y = 0) (h : Gm l E cc nL own rt R en (res) (w) (pc + 1) (lv) (.long (x / y) :: st)) : Gm l E cc nL own rt R en (res) (w) (pc) (lv) (.long y :: .long x :: st) := by
  intro q hq p e s m args below meth c H locs ls hC hP hD hS hl
  exact lv_ldiv hC.1 hC.2.1 hd hne (h q hq p e s m args below meth c H locs ls hC hP hD hS hl)
theorem gm_lcmp {x y : Int64} (hd : decode cc pc = .ok (.lcmp, 1)) (h : Gm l E cc nL own rt R en (res) (w) (pc + 1) (lv) (.int (lg_cmp x y) :: st)) : Gm l E cc nL own rt R en (res) (w) (pc) (lv) (.long y :: .long x :: st) := by
  intro q hq p e s m args below meth c H locs ls hC hP hD hS hl
  exact W.lcmp hC.1 hC.2.1 hd (h q hq p e s m args below meth c H locs ls hC hP hD hS hl)
theorem gm_i2l {x : Int32} (hd : decode cc pc = .ok (.i2l, 1)) (h : Gm l E cc nL own rt R en (res) (w) (pc + 1) (lv) (.long x.toInt64 :: st)) : Gm l E cc nL own rt R en (res) (w) (pc) (lv) (.int x :: st) := by
  intro q hq p e s m args below meth c H locs ls hC hP hD hS hl
  exact lv_i2l hC.1 hC.2.1 hd rfl (h q hq p e s m args below meth c H locs ls hC hP hD hS hl)
theorem gm_i2c {x : Int32} (hd : decode cc pc = .ok (.i2c, 1)) (h : Gm l E cc nL own rt R en (res) (w) (pc + 1) (lv) (.int (x.toUInt32 % 65536).toInt32 :: st)) : Gm l E cc nL own rt R en (res) (w) (pc) (lv) (.int x :: st) := by
  intro q hq p e s m args below meth c H locs ls hC hP hD hS hl
  exact lv_i2c hC.1 hC.2.1 hd rfl (h q hq p e s m args below meth c H locs ls hC hP hD hS hl)
theorem gm_dup {v : Value} (hd : decode cc pc = .ok (.dup, 1)) (hv : v.category = 1) (h : Gm l E cc nL own rt R en (res) (w) (pc + 1) (lv) (v :: v :: st)) : Gm l E cc nL own rt R en (res) (w) (pc) (lv) (v :: st) := by
  intro q hq p e s m args below meth c H locs ls hC hP hD hS hl
  exact lv_dup hC.1 hC.2.1 hd hv (h q hq p e s m args below meth c H locs ls hC hP hD hS hl)
theorem gm_pop {v : Value} (hd : decode cc pc = .ok (.pop, 1)) (hv : v.category = 1) (h : Gm l E cc nL own rt R en (res) (w) (pc + 1) (lv) (st)) : Gm l E cc nL own rt R en (res) (w) (pc) (lv) (v :: st) := by
  intro q hq p e s m args below meth c H locs ls hC hP hD hS hl
  exact lv_pop hC.1 hC.2.1 hd hv (h q hq p e s m args below meth c H locs ls hC hP hD hS hl)
theorem gm_dup_x1 {v u : Value} (hd : decode cc pc = .ok (.dup_x1, 1)) (hv : v.category = 1) (hu : u.category = 1) (h : Gm l E cc nL own rt R en (res) (w) (pc + 1) (lv) (v :: u :: v :: st)) : Gm l E cc nL own rt R en (res) (w) (pc) (lv) (v :: u :: st) := by
  intro q hq p e s m args below meth c H locs ls hC hP hD hS hl
  exact lv_dup_x1 hC.1 hC.2.1 hd hv hu (h q hq p e s m args below meth c H locs ls hC hP hD hS hl)
theorem gm_dup2 {v u : Value} (hd : decode cc pc = .ok (.dup2, 1)) (hv : v.category = 1) (hu : u.category = 1) (h : Gm l E cc nL own rt R en (res) (w) (pc + 1) (lv) (v :: u :: v :: u :: st)) : Gm l E cc nL own rt R en (res) (w) (pc) (lv) (v :: u :: st) := by
  intro q hq p e s m args below meth c H locs ls hC hP hD hS hl
  exact lv_dup2_11 hC.1 hC.2.1 hd hv hu (h q hq p e s m args below meth c H locs ls hC hP hD hS hl)
theorem gm_if_eq {x : Int32} {off : Int} {tgt : Nat} (hd : decode cc pc = .ok (.ifCond .eq off, 3)) (ht : (pc : Int) + off = (tgt : Int)) (h1 : Gm l E cc nL own rt R en (A) (w) (tgt) (lv) (st)) (h2 : Gm l E cc nL own rt R en (B) (w) (pc + 3) (lv) (st)) : Gm l E cc nL own rt R en (if x = 0 then A else B) (w) (pc) (lv) (.int x :: st) := by
  intro q hq p e s m args below meth c H locs ls hC hP hD hS hl
  refine lv_if_eq hC.1 hC.2.1 hd ht (fun hc => ?_) (fun hc => ?_)
  · rw [if_pos hc] at hq
    exact h1 q hq p e s m args below meth c H locs ls hC hP hD hS hl
  · rw [if_neg hc] at hq
    exact h2 q hq p e s m args below meth c H locs ls hC hP hD hS hl
theorem gm_if_eq_T {x : Int32} {off : Int} {tgt : Nat} (hd : decode cc pc = .ok (.ifCond .eq off, 3)) (ht : (pc : Int) + off = (tgt : Int)) (hc : x = 0) (h : Gm l E cc nL own rt R en (res) (w) (tgt) (lv) (st)) : Gm l E cc nL own rt R en (res) (w) (pc) (lv) (.int x :: st) := by
  intro q hq p e s m args below meth c H locs ls hC hP hD hS hl
  exact lv_if_eq hC.1 hC.2.1 hd ht (fun _ => h q hq p e s m args below meth c H locs ls hC hP hD hS hl) (fun hn => absurd hc hn)
theorem gm_if_eq_F {x : Int32} {off : Int} {tgt : Nat} (hd : decode cc pc = .ok (.ifCond .eq off, 3)) (ht : (pc : Int) + off = (tgt : Int)) (hc : ¬ x = 0) (h : Gm l E cc nL own rt R en (res) (w) (pc + 3) (lv) (st)) : Gm l E cc nL own rt R en (res) (w) (pc) (lv) (.int x :: st) := by
  intro q hq p e s m args below meth c H locs ls hC hP hD hS hl
  exact lv_if_eq hC.1 hC.2.1 hd ht (fun hn => absurd hn hc) (fun _ => h q hq p e s m args below meth c H locs ls hC hP hD hS hl)
theorem gm_icmp_eq {x y : Int32} {off : Int} {tgt : Nat} (hd : decode cc pc = .ok (.if_icmp .eq off, 3)) (ht : (pc : Int) + off = (tgt : Int)) (h1 : Gm l E cc nL own rt R en (A) (w) (tgt) (lv) (st)) (h2 : Gm l E cc nL own rt R en (B) (w) (pc + 3) (lv) (st)) : Gm l E cc nL own rt R en (if x = y then A else B) (w) (pc) (lv) (.int y :: .int x :: st) := by
  intro q hq p e s m args below meth c H locs ls hC hP hD hS hl
  refine lv_icmp_eq hC.1 hC.2.1 hd ht (fun hc => ?_) (fun hc => ?_)
  · rw [if_pos hc] at hq
    exact h1 q hq p e s m args below meth c H locs ls hC hP hD hS hl
  · rw [if_neg hc] at hq
    exact h2 q hq p e s m args below meth c H locs ls hC hP hD hS hl
theorem gm_icmp_eq_T {x y : Int32} {off : Int} {tgt : Nat} (hd : decode cc pc = .ok (.if_icmp .eq off, 3)) (ht : (pc : Int) + off = (tgt : Int)) (hc : x = y) (h : Gm l E cc nL own rt R en (res) (w) (tgt) (lv) (st)) : Gm l E cc nL own rt R en (res) (w) (pc) (lv) (.int y :: .int x :: st) := by
  intro q hq p e s m args below meth c H locs ls hC hP hD hS hl
  exact lv_icmp_eq hC.1 hC.2.1 hd ht (fun _ => h q hq p e s m args below meth c H locs ls hC hP hD hS hl) (fun hn => absurd hc hn)
theorem gm_icmp_eq_F {x y : Int32} {off : Int} {tgt : Nat} (hd : decode cc pc = .ok (.if_icmp .eq off, 3)) (ht : (pc : Int) + off = (tgt : Int)) (hc : ¬ x = y) (h : Gm l E cc nL own rt R en (res) (w) (pc + 3) (lv) (st)) : Gm l E cc nL own rt R en (res) (w) (pc) (lv) (.int y :: .int x :: st) := by
  intro q hq p e s m args below meth c H locs ls hC hP hD hS hl
  exact lv_icmp_eq hC.1 hC.2.1 hd ht (fun hn => absurd hn hc) (fun _ => h q hq p e s m args below meth c H locs ls hC hP hD hS hl)
theorem gm_if_lt {x : Int32} {off : Int} {tgt : Nat} (hd : decode cc pc = .ok (.ifCond .lt off, 3)) (ht : (pc : Int) + off = (tgt : Int)) (h1 : Gm l E cc nL own rt R en (A) (w) (tgt) (lv) (st)) (h2 : Gm l E cc nL own rt R en (B) (w) (pc + 3) (lv) (st)) : Gm l E cc nL own rt R en (if x < 0 then A else B) (w) (pc) (lv) (.int x :: st) := by
  intro q hq p e s m args below meth c H locs ls hC hP hD hS hl
  refine lv_if_lt hC.1 hC.2.1 hd ht (fun hc => ?_) (fun hc => ?_)
  · rw [if_pos hc] at hq
    exact h1 q hq p e s m args below meth c H locs ls hC hP hD hS hl
  · rw [if_neg hc] at hq
    exact h2 q hq p e s m args below meth c H locs ls hC hP hD hS hl
theorem gm_if_lt_T {x : Int32} {off : Int} {tgt : Nat} (hd : decode cc pc = .ok (.ifCond .lt off, 3)) (ht : (pc : Int) + off = (tgt : Int)) (hc : x < 0) (h : Gm l E cc nL own rt R en (res) (w) (tgt) (lv) (st)) : Gm l E cc nL own rt R en (res) (w) (pc) (lv) (.int x :: st) := by
  intro q hq p e s m args below meth c H locs ls hC hP hD hS hl
  exact lv_if_lt hC.1 hC.2.1 hd ht (fun _ => h q hq p e s m args below meth c H locs ls hC hP hD hS hl) (fun hn => absurd hc hn)
theorem gm_if_lt_F {x : Int32} {off : Int} {tgt : Nat} (hd : decode cc pc = .ok (.ifCond .lt off, 3)) (ht : (pc : Int) + off = (tgt : Int)) (hc : ¬ x < 0) (h : Gm l E cc nL own rt R en (res) (w) (pc + 3) (lv) (st)) : Gm l E cc nL own rt R en (res) (w) (pc) (lv) (.int x :: st) := by
  intro q hq p e s m args below meth c H locs ls hC hP hD hS hl
  exact lv_if_lt hC.1 hC.2.1 hd ht (fun hn => absurd hn hc) (fun _ => h q hq p e s m args below meth c H locs ls hC hP hD hS hl)
theorem gm_icmp_lt {x y : Int32} {off : Int} {tgt : Nat} (hd : decode cc pc = .ok (.if_icmp .lt off, 3)) (ht : (pc : Int) + off = (tgt : Int)) (h1 : Gm l E cc nL own rt R en (A) (w) (tgt) (lv) (st)) (h2 : Gm l E cc nL own rt R en (B) (w) (pc + 3) (lv) (st)) : Gm l E cc nL own rt R en (if x < y then A else B) (w) (pc) (lv) (.int y :: .int x :: st) := by
  intro q hq p e s m args below meth c H locs ls hC hP hD hS hl
  refine lv_icmp_lt hC.1 hC.2.1 hd ht (fun hc => ?_) (fun hc => ?_)
  · rw [if_pos hc] at hq
    exact h1 q hq p e s m args below meth c H locs ls hC hP hD hS hl
  · rw [if_neg hc] at hq
    exact h2 q hq p e s m args below meth c H locs ls hC hP hD hS hl
theorem gm_icmp_lt_T {x y : Int32} {off : Int} {tgt : Nat} (hd : decode cc pc = .ok (.if_icmp .lt off, 3)) (ht : (pc : Int) + off = (tgt : Int)) (hc : x < y) (h : Gm l E cc nL own rt R en (res) (w) (tgt) (lv) (st)) : Gm l E cc nL own rt R en (res) (w) (pc) (lv) (.int y :: .int x :: st) := by
  intro q hq p e s m args below meth c H locs ls hC hP hD hS hl
  exact lv_icmp_lt hC.1 hC.2.1 hd ht (fun _ => h q hq p e s m args below meth c H locs ls hC hP hD hS hl) (fun hn => absurd hc hn)
theorem gm_icmp_lt_F {x y : Int32} {off : Int} {tgt : Nat} (hd : decode cc pc = .ok (.if_icmp .lt off, 3)) (ht : (pc : Int) + off = (tgt : Int)) (hc : ¬ x < y) (h : Gm l E cc nL own rt R en (res) (w) (pc + 3) (lv) (st)) : Gm l E cc nL own rt R en (res) (w) (pc) (lv) (.int y :: .int x :: st) := by
  intro q hq p e s m args below meth c H locs ls hC hP hD hS hl
  exact lv_icmp_lt hC.1 hC.2.1 hd ht (fun hn => absurd hn hc) (fun _ => h q hq p e s m args below meth c H locs ls hC hP hD hS hl)
theorem gm_if_ge {x : Int32} {off : Int} {tgt : Nat} (hd : decode cc pc = .ok (.ifCond .ge off, 3)) (ht : (pc : Int) + off = (tgt : Int)) (h1 : Gm l E cc nL own rt R en (A) (w) (tgt) (lv) (st)) (h2 : Gm l E cc nL own rt R en (B) (w) (pc + 3) (lv) (st)) : Gm l E cc nL own rt R en (if 0 ≤ x then A else B) (w) (pc) (lv) (.int x :: st) := by
  intro q hq p e s m args below meth c H locs ls hC hP hD hS hl
  refine lv_if_ge hC.1 hC.2.1 hd ht (fun hc => ?_) (fun hc => ?_)
  · rw [if_pos hc] at hq
    exact h1 q hq p e s m args below meth c H locs ls hC hP hD hS hl
  · rw [if_neg hc] at hq
    exact h2 q hq p e s m args below meth c H locs ls hC hP hD hS hl
theorem gm_if_ge_T {x : Int32} {off : Int} {tgt : Nat} (hd : decode cc pc = .ok (.ifCond .ge off, 3)) (ht : (pc : Int) + off = (tgt : Int)) (hc : 0 ≤ x) (h : Gm l E cc nL own rt R en (res) (w) (tgt) (lv) (st)) : Gm l E cc nL own rt R en (res) (w) (pc) (lv) (.int x :: st) := by
  intro q hq p e s m args below meth c H locs ls hC hP hD hS hl
  exact lv_if_ge hC.1 hC.2.1 hd ht (fun _ => h q hq p e s m args below meth c H locs ls hC hP hD hS hl) (fun hn => absurd hc hn)
theorem gm_if_ge_F {x : Int32} {off : Int} {tgt : Nat} (hd : decode cc pc = .ok (.ifCond .ge off, 3)) (ht : (pc : Int) + off = (tgt : Int)) (hc : ¬ 0 ≤ x) (h : Gm l E cc nL own rt R en (res) (w) (pc + 3) (lv) (st)) : Gm l E cc nL own rt R en (res) (w) (pc) (lv) (.int x :: st) := by
  intro q hq p e s m args below meth c H locs ls hC hP hD hS hl
  exact lv_if_ge hC.1 hC.2.1 hd ht (fun hn => absurd hn hc) (fun _ => h q hq p e s m args below meth c H locs ls hC hP hD hS hl)
theorem gm_icmp_ge {x y : Int32} {off : Int} {tgt : Nat} (hd : decode cc pc = .ok (.if_icmp .ge off, 3)) (ht : (pc : Int) + off = (tgt : Int)) (h1 : Gm l E cc nL own rt R en (A) (w) (tgt) (lv) (st)) (h2 : Gm l E cc nL own rt R en (B) (w) (pc + 3) (lv) (st)) : Gm l E cc nL own rt R en (if y ≤ x then A else B) (w) (pc) (lv) (.int y :: .int x :: st) := by
  intro q hq p e s m args below meth c H locs ls hC hP hD hS hl
  refine lv_icmp_ge hC.1 hC.2.1 hd ht (fun hc => ?_) (fun hc => ?_)
  · rw [if_pos hc] at hq
    exact h1 q hq p e s m args below meth c H locs ls hC hP hD hS hl
  · rw [if_neg hc] at hq
    exact h2 q hq p e s m args below meth c H locs ls hC hP hD hS hl
theorem gm_icmp_ge_T {x y : Int32} {off : Int} {tgt : Nat} (hd : decode cc pc = .ok (.if_icmp .ge off, 3)) (ht : (pc : Int) + off = (tgt : Int)) (hc : y ≤ x) (h : Gm l E cc nL own rt R en (res) (w) (tgt) (lv) (st)) : Gm l E cc nL own rt R en (res) (w) (pc) (lv) (.int y :: .int x :: st) := by
  intro q hq p e s m args below meth c H locs ls hC hP hD hS hl
  exact lv_icmp_ge hC.1 hC.2.1 hd ht (fun _ => h q hq p e s m args below meth c H locs ls hC hP hD hS hl) (fun hn => absurd hc hn)
theorem gm_icmp_ge_F {x y : Int32} {off : Int} {tgt : Nat} (hd : decode cc pc = .ok (.if_icmp .ge off, 3)) (ht : (pc : Int) + off = (tgt : Int)) (hc : ¬ y ≤ x) (h : Gm l E cc nL own rt R en (res) (w) (pc + 3) (lv) (st)) : Gm l E cc nL own rt R en (res) (w) (pc) (lv) (.int y :: .int x :: st) := by
  intro q hq p e s m args below meth c H locs ls hC hP hD hS hl
  exact lv_icmp_ge hC.1 hC.2.1 hd ht (fun hn => absurd hn hc) (fun _ => h q hq p e s m args below meth c H locs ls hC hP hD hS hl)
theorem gm_if_gt {x : Int32} {off : Int} {tgt : Nat} (hd : decode cc pc = .ok (.ifCond .gt off, 3)) (ht : (pc : Int) + off = (tgt : Int)) (h1 : Gm l E cc nL own rt R en (A) (w) (tgt) (lv) (st)) (h2 : Gm l E cc nL own rt R en (B) (w) (pc + 3) (lv) (st)) : Gm l E cc nL own rt R en (if 0 < x then A else B) (w) (pc) (lv) (.int x :: st) := by
  intro q hq p e s m args below meth c H locs ls hC hP hD hS hl
  refine lv_if_gt hC.1 hC.2.1 hd ht (fun hc => ?_) (fun hc => ?_)
  · rw [if_pos hc] at hq
    exact h1 q hq p e s m args below meth c H locs ls hC hP hD hS hl
  · rw [if_neg hc] at hq
    exact h2 q hq p e s m args below meth c H locs ls hC hP hD hS hl
theorem gm_if_gt_T {x : Int32} {off : Int} {tgt : Nat} (hd : decode cc pc = .ok (.ifCond .gt off, 3)) (ht : (pc : Int) + off = (tgt : Int)) (hc : 0 < x) (h : Gm l E cc nL own rt R en (res) (w) (tgt) (lv) (st)) : Gm l E cc nL own rt R en (res) (w) (pc) (lv) (.int x :: st) := by
  intro q hq p e s m args below meth c H locs ls hC hP hD hS hl
  exact lv_if_gt hC.1 hC.2.1 hd ht (fun _ => h q hq p e s m args below meth c H locs ls hC hP hD hS hl) (fun hn => absurd hc hn)
theorem gm_if_gt_F {x : Int32} {off : Int} {tgt : Nat} (hd : decode cc pc = .ok (.ifCond .gt off, 3)) (ht : (pc : Int) + off = (tgt : Int)) (hc : ¬ 0 < x) (h : Gm l E cc nL own rt R en (res) (w) (pc + 3) (lv) (st)) : Gm l E cc nL own rt R en (res) (w) (pc) (lv) (.int x :: st) := by
  intro q hq p e s m args below meth c H locs ls hC hP hD hS hl
  exact lv_if_gt hC.1 hC.2.1 hd ht (fun hn => absurd hn hc) (fun _ => h q hq p e s m args below meth c H locs ls hC hP hD hS hl)
theorem gm_icmp_gt {x y : Int32} {off : Int} {tgt : Nat} (hd : decode cc pc = .ok (.if_icmp .gt off, 3)) (ht : (pc : Int) + off = (tgt : Int)) (h1 : Gm l E cc nL own rt R en (A) (w) (tgt) (lv) (st)) (h2 : Gm l E cc nL own rt R en (B) (w) (pc + 3) (lv) (st)) : Gm l E cc nL own rt R en (if y < x then A else B) (w) (pc) (lv) (.int y :: .int x :: st) := by
  intro q hq p e s m args below meth c H locs ls hC hP hD hS hl
  refine lv_icmp_gt hC.1 hC.2.1 hd ht (fun hc => ?_) (fun hc => ?_)
  · rw [if_pos hc] at hq
    exact h1 q hq p e s m args below meth c H locs ls hC hP hD hS hl
  · rw [if_neg hc] at hq
    exact h2 q hq p e s m args below meth c H locs ls hC hP hD hS hl
theorem gm_icmp_gt_T {x y : Int32} {off : Int} {tgt : Nat} (hd : decode cc pc = .ok (.if_icmp .gt off, 3)) (ht : (pc : Int) + off = (tgt : Int)) (hc : y < x) (h : Gm l E cc nL own rt R en (res) (w) (tgt) (lv) (st)) : Gm l E cc nL own rt R en (res) (w) (pc) (lv) (.int y :: .int x :: st) := by
  intro q hq p e s m args below meth c H locs ls hC hP hD hS hl
  exact lv_icmp_gt hC.1 hC.2.1 hd ht (fun _ => h q hq p e s m args below meth c H locs ls hC hP hD hS hl) (fun hn => absurd hc hn)
theorem gm_icmp_gt_F {x y : Int32} {off : Int} {tgt : Nat} (hd : decode cc pc = .ok (.if_icmp .gt off, 3)) (ht : (pc : Int) + off = (tgt : Int)) (hc : ¬ y < x) (h : Gm l E cc nL own rt R en (res) (w) (pc + 3) (lv) (st)) : Gm l E cc nL own rt R en (res) (w) (pc) (lv) (.int y :: .int x :: st) := by
  intro q hq p e s m args below meth c H locs ls hC hP hD hS hl
  exact lv_icmp_gt hC.1 hC.2.1 hd ht (fun hn => absurd hn hc) (fun _ => h q hq p e s m args below meth c H locs ls hC hP hD hS hl)
theorem gm_if_le {x : Int32} {off : Int} {tgt : Nat} (hd : decode cc pc = .ok (.ifCond .le off, 3)) (ht : (pc : Int) + off = (tgt : Int)) (h1 : Gm l E cc nL own rt R en (A) (w) (tgt) (lv) (st)) (h2 : Gm l E cc nL own rt R en (B) (w) (pc + 3) (lv) (st)) : Gm l E cc nL own rt R en (if x ≤ 0 then A else B) (w) (pc) (lv) (.int x :: st) := by
  intro q hq p e s m args below meth c H locs ls hC hP hD hS hl
  refine lv_if_le hC.1 hC.2.1 hd ht (fun hc => ?_) (fun hc => ?_)
  · rw [if_pos hc] at hq
    exact h1 q hq p e s m args below meth c H locs ls hC hP hD hS hl
  · rw [if_neg hc] at hq
    exact h2 q hq p e s m args below meth c H locs ls hC hP hD hS hl
theorem gm_if_le_T {x : Int32} {off : Int} {tgt : Nat} (hd : decode cc pc = .ok (.ifCond .le off, 3)) (ht : (pc : Int) + off = (tgt : Int)) (hc : x ≤ 0) (h : Gm l E cc nL own rt R en (res) (w) (tgt) (lv) (st)) : Gm l E cc nL own rt R en (res) (w) (pc) (lv) (.int x :: st) := by
  intro q hq p e s m args below meth c H locs ls hC hP hD hS hl
  exact lv_if_le hC.1 hC.2.1 hd ht (fun _ => h q hq p e s m args below meth c H locs ls hC hP hD hS hl) (fun hn => absurd hc hn)
theorem gm_if_le_F {x : Int32} {off : Int} {tgt : Nat} (hd : decode cc pc = .ok (.ifCond .le off, 3)) (ht : (pc : Int) + off = (tgt : Int)) (hc : ¬ x ≤ 0) (h : Gm l E cc nL own rt R en (res) (w) (pc + 3) (lv) (st)) : Gm l E cc nL own rt R en (res) (w) (pc) (lv) (.int x :: st) := by
  intro q hq p e s m args below meth c H locs ls hC hP hD hS hl
  exact lv_if_le hC.1 hC.2.1 hd ht (fun hn => absurd hn hc) (fun _ => h q hq p e s m args below meth c H locs ls hC hP hD hS hl)
theorem gm_icmp_le {x y : Int32} {off : Int} {tgt : Nat} (hd : decode cc pc = .ok (.if_icmp .le off, 3)) (ht : (pc : Int) + off = (tgt : Int)) (h1 : Gm l E cc nL own rt R en (A) (w) (tgt) (lv) (st)) (h2 : Gm l E cc nL own rt R en (B) (w) (pc + 3) (lv) (st)) : Gm l E cc nL own rt R en (if x ≤ y then A else B) (w) (pc) (lv) (.int y :: .int x :: st) := by
  intro q hq p e s m args below meth c H locs ls hC hP hD hS hl
  refine lv_icmp_le hC.1 hC.2.1 hd ht (fun hc => ?_) (fun hc => ?_)
  · rw [if_pos hc] at hq
    exact h1 q hq p e s m args below meth c H locs ls hC hP hD hS hl
  · rw [if_neg hc] at hq
    exact h2 q hq p e s m args below meth c H locs ls hC hP hD hS hl
theorem gm_icmp_le_T {x y : Int32} {off : Int} {tgt : Nat} (hd : decode cc pc = .ok (.if_icmp .le off, 3)) (ht : (pc : Int) + off = (tgt : Int)) (hc : x ≤ y) (h : Gm l E cc nL own rt R en (res) (w) (tgt) (lv) (st)) : Gm l E cc nL own rt R en (res) (w) (pc) (lv) (.int y :: .int x :: st) := by
  intro q hq p e s m args below meth c H locs ls hC hP hD hS hl
  exact lv_icmp_le hC.1 hC.2.1 hd ht (fun _ => h q hq p e s m args below meth c H locs ls hC hP hD hS hl) (fun hn => absurd hc hn)
theorem gm_icmp_le_F {x y : Int32} {off : Int} {tgt : Nat} (hd : decode cc pc = .ok (.if_icmp .le off, 3)) (ht : (pc : Int) + off = (tgt : Int)) (hc : ¬ x ≤ y) (h : Gm l E cc nL own rt R en (res) (w) (pc + 3) (lv) (st)) : Gm l E cc nL own rt R en (res) (w) (pc) (lv) (.int y :: .int x :: st) := by
  intro q hq p e s m args below meth c H locs ls hC hP hD hS hl
  exact lv_icmp_le hC.1 hC.2.1 hd ht (fun hn => absurd hn hc) (fun _ => h q hq p e s m args below meth c H locs ls hC hP hD hS hl)
theorem gm_if_ne {x : Int32} {off : Int} {tgt : Nat} (hd : decode cc pc = .ok (.ifCond .ne off, 3)) (ht : (pc : Int) + off = (tgt : Int)) (h1 : Gm l E cc nL own rt R en (A) (w) (tgt) (lv) (st)) (h2 : Gm l E cc nL own rt R en (B) (w) (pc + 3) (lv) (st)) : Gm l E cc nL own rt R en (if x = 0 then B else A) (w) (pc) (lv) (.int x :: st) := by
  intro q hq p e s m args below meth c H locs ls hC hP hD hS hl
  refine lv_if_ne hC.1 hC.2.1 hd ht (fun hc => ?_) (fun hc => ?_)
  · rw [if_neg hc] at hq
    exact h1 q hq p e s m args below meth c H locs ls hC hP hD hS hl
  · rw [if_pos hc] at hq
    exact h2 q hq p e s m args below meth c H locs ls hC hP hD hS hl
theorem gm_icmp_ne {x y : Int32} {off : Int} {tgt : Nat} (hd : decode cc pc = .ok (.if_icmp .ne off, 3)) (ht : (pc : Int) + off = (tgt : Int)) (h1 : Gm l E cc nL own rt R en (A) (w) (tgt) (lv) (st)) (h2 : Gm l E cc nL own rt R en (B) (w) (pc + 3) (lv) (st)) : Gm l E cc nL own rt R en (if x = y then B else A) (w) (pc) (lv) (.int y :: .int x :: st) := by
  intro q hq p e s m args below meth c H locs ls hC hP hD hS hl
  refine lv_icmp_ne hC.1 hC.2.1 hd ht (fun hc => ?_) (fun hc => ?_)
  · rw [if_neg hc] at hq
    exact h1 q hq p e s m args below meth c H locs ls hC hP hD hS hl
  · rw [if_pos hc] at hq
    exact h2 q hq p e s m args below meth c H locs ls hC hP hD hS hl
theorem gm_goto {off : Int} {tgt : Nat} (hd : decode cc pc = .ok (.goto off, 3)) (ht : (pc : Int) + off = (tgt : Int)) (h : Gm l E cc nL own rt R en (res) (w) (tgt) (lv) (st)) : Gm l E cc nL own rt R en (res) (w) (pc) (lv) (st) := by
  intro q hq p e s m args below meth c H locs ls hC hP hD hS hl
  exact lv_goto hC.1 hC.2.1 hd ht (h q hq p e s m args below meth c H locs ls hC hP hD hS hl)
theorem gm_ifnull {x : Nat} {off : Int} (hd : decode cc pc = .ok (.ifnull off, 3)) (h : Gm l E cc nL own rt R en (res) (w) (pc + 3) (lv) (st)) : Gm l E cc nL own rt R en (res) (w) (pc) (lv) (.ref x :: st) := by
  intro q hq p e s m args below meth c H locs ls hC hP hD hS hl
  exact lv_ifnull hC.1 hC.2.1 hd (h q hq p e s m args below meth c H locs ls hC hP hD hS hl)
theorem gm_tblOut {dflt lo hi : Int} {offs : Array Int} {len : Nat} {x : Int32} {tgt : Nat} (hd : decode cc pc = .ok (.tableswitch dflt lo hi offs, len)) (ht : (pc : Int) + dflt = (tgt : Int)) (hc : x.toInt < lo ∨ hi < x.toInt) (h : Gm l E cc nL own rt R en (res) (w) (tgt) (lv) (st)) : Gm l E cc nL own rt R en (res) (w) (pc) (lv) (.int x :: st) := by
  intro q hq p e s m args below meth c H locs ls hC hP hD hS hl
  exact lv_tableOut hC.1 hC.2.1 hd hc ht (h q hq p e s m args below meth c H locs ls hC hP hD hS hl)
theorem gm_tblIn {dflt lo hi : Int} {offs : Array Int} {len : Nat} {x : Int32} {off : Int} {tgt : Nat} (hd : decode cc pc = .ok (.tableswitch dflt lo hi offs, len)) (h1 : ¬ x.toInt < lo) (h2 : ¬ hi < x.toInt) (ho : offs[(x.toInt - lo).toNat]? = some off) (ht : (pc : Int) + off = (tgt : Int)) (h : Gm l E cc nL own rt R en (res) (w) (tgt) (lv) (st)) : Gm l E cc nL own rt R en (res) (w) (pc) (lv) (.int x :: st) := by
  intro q hq p e s m args below meth c H locs ls hC hP hD hS hl
  exact lv_tableIn hC.1 hC.2.1 hd h1 h2 ho ht (h q hq p e s m args below meth c H locs ls hC hP hD hS hl)
theorem gm_leti {x : Int32} {K : Int32 → Option (α × Wd)} {st0 : List Value} {f : Int32 → List (Option Value)} (h : ∀ y, Gm l E cc nL own rt R en (K y) (w) (pc) (f y) (st0)) : Gm l E cc nL own rt R en (leti x K) (w) (pc) (f x) (st0) := h x
theorem gm_leti_st {x : Int32} {K : Int32 → Option (α × Wd)} (h : ∀ y, Gm l E cc nL own rt R en (K y) (w) (pc) (lv) (.int y :: st)) : Gm l E cc nL own rt R en (leti x K) (w) (pc) (lv) (.int x :: st) := h x
theorem gm_letl_st {x : Int64} {K : Int64 → Option (α × Wd)} (h : ∀ y, Gm l E cc nL own rt R en (K y) (w) (pc) (lv) (.long y :: st)) : Gm l E cc nL own rt R en (letl x K) (w) (pc) (lv) (.long x :: st) := h x
theorem gm_letw {w0 : Wd} {K : Wd → Option (α × Wd)} (h : ∀ y, Gm l E cc nL own rt R en (K y) (y) (pc) (lv) (st)) : Gm l E cc nL own rt R en (letw w0 K) (w0) (pc) (lv) (st) := h w0
theorem gm_none {lv : List (Option Value)} : Gm l E cc nL own rt R en (none) (w) (pc) (lv) (st) := by
  intro q hq; cases hq
theorem gm_guard {c : Prop} [Decidable c] (h : c → Gm l E cc nL own rt R en (res) (w) (pc) (lv) (st)) : Gm l E cc nL own rt R en (if c then res else none) (w) (pc) (lv) (st) := by
  intro q hq
  by_cases hc : c
  · rw [if_pos hc] at hq; exact h hc q hq
  · rw [if_neg hc] at hq; cases hq
theorem gm_get {g cl ci idx N : Nat} {C ref : String} {T : u_T} {fs : (Nat → Int32) → List Value} {v : Value} (hd : decode cc pc = .ok (.getfield idx, 3)) (ho : OB E g cl ci fs) (hc : vwCl[ci]? = some (C, T, N)) (hin : ∀ w ∈ u_ws C T N, w ∈ gwl) (k : Nat) (hk : k < N) (hlk : Cond.fieldLink own idx ref (T k).2.1 (T k).2.2.1 ∈ lw_tbl) (href : (T k).1 = ref) (hv : (fs (w g cl))[k]? = some v) (h : Gm l E cc nL own rt R en (res) (w) (pc + 3) (lv) (v :: st)) : Gm l E cc nL own rt R en (res) (w) (pc) (lv) (.ref (E.1 g cl) :: st) := by
  intro q hq p e s m args below meth c H locs ls hC hP hD hS hl
  subst href
  obtain ⟨k0, hk0⟩ := List.getElem?_of_mem ho.1
  have he := wl_at (E := E) (w := w) hk0
  rw [ho.2] at he
  exact va_get hC.1 hC.2.1 hC.2.2.2.2.1 hin hC.2.2.2.1 hC.2.2.2.2.2.2.2.2 hP k0 he hc k hk (hC.2.2.2.2.1 _ (gw_in hlk rfl)) (fun _ h9 => h9) hv hd (h q hq p e s m args below meth c H locs ls hC hP hD hS hl)
theorem gm_put {g cl ci idx N : Nat} {C ref : String} {T : u_T} {fs : (Nat → Int32) → List Value} {x : Int32} {K : Wd → Option (α × Wd)} (hd : decode cc pc = .ok (.putfield idx, 3)) (ho : OB E g cl ci fs) (hc : vwCl[ci]? = some (C, T, N)) (hin : ∀ w ∈ u_ws C T N, w ∈ gwl) (ty0 : Nat → FieldType) (hty : ∀ k, k < N → parseFieldDescriptor (T k).2.2.1 = some (ty0 k)) (hnm : ∀ a, a < N → ∀ b, b < N → a ≠ b → (T a).2.1 ≠ (T b).2.1) (k : Nat) (hk : k < N) (hlk : Cond.fieldLink own idx ref (T k).2.1 (T k).2.2.1 ∈ lw_tbl) (href : (T k).1 = ref) (hfin : (T k).2.2.2 = false) (hpd : parseFieldDescriptor (T k).2.2.1 = some .int) (hlen : ∀ r, (fs r).length = N) (hset : ∀ r, fs (upd r k x) = (fs r).set k (.int x)) (h : ∀ w1, Gm l E cc nL own rt R en (K w1) (w1) (pc + 3) (lv) (st)) : Gm l E cc nL own rt R en (letw (wup w g cl k x) K) (w) (pc) (lv) (.int x :: .ref (E.1 g cl) :: st) := by
  intro q hq p e s m args below meth c H locs ls hC hP hD hS hl
  subst href
  obtain ⟨k0, hk0⟩ := List.getElem?_of_mem ho.1
  have he := wl_at (E := E) (w := w) hk0
  rw [ho.2] at he
  refine va_put hC.1 hC.2.1 hC.2.2.2.2.1 hin ty0 hty hnm hC.2.2.2.1 hC.2.2.2.2.2.2.2.2 hP hD hS k0 he hc k hk (hC.2.2.2.2.1 _ (gw_in hlk rfl)) (fun _ h9 => h9) hfin hpd rfl rfl (by rw [hlen]; exact hk) hd (fun H locs hP hD2 hS => ?_)
  have hs : (wl E w).set k0 (E.1 g cl, .inr (ci, (fs (w g cl)).set k (.int x))) = wl E (wup w g cl k x) := by
    rw [← hset, ← ho.2]
    exact wl_set hk0 hD _
  rw [hs] at hP hD2
  exact h (wup w g cl k x) q hq p e s m args below meth c H locs ls hC hP hD2 hS hl
theorem gm_iald {g cl n : Nat} {i : Int32} (hd : decode cc pc = .ok (.iaload, 1)) (ha : AI E g cl n) (h : Gm l E cc nL own rt R en (res) (w) (pc + 1) (lv) (.int (w g cl i.toNatClampNeg) :: st)) : Gm l E cc nL own rt R en (if ib i n = true then res else none) (w) (pc) (lv) (.int i :: .ref (E.1 g cl) :: st) := by
  intro q hq p e s m args below meth c H locs ls hC hP hD hS hl
  by_cases hb : ib i n = true
  · rw [if_pos hb] at hq
    obtain ⟨k0, hk0⟩ := List.getElem?_of_mem ha.1
    have he := wl_at (E := E) (w := w) hk0
    rw [ha.2] at he
    exact va_iald hC.1 hC.2.1 hC.2.2.2.2.2.2.2.2 hP k0 0 he rfl (ib_in hb) hd (h q hq p e s m args below meth c H locs ls hC hP hD hS hl)
  · rw [if_neg hb] at hq; cases hq
theorem gm_cald {g cl n : Nat} {i : Int32} (hd : decode cc pc = .ok (.caload, 1)) (ha : AC E g cl n) (h : Gm l E cc nL own rt R en (res) (w) (pc + 1) (lv) (.int (w g cl i.toNatClampNeg) :: st)) : Gm l E cc nL own rt R en (if ib i n = true then res else none) (w) (pc) (lv) (.int i :: .ref (E.1 g cl) :: st) := by
  intro q hq p e s m args below meth c H locs ls hC hP hD hS hl
  by_cases hb : ib i n = true
  · rw [if_pos hb] at hq
    obtain ⟨k0, hk0⟩ := List.getElem?_of_mem ha.1
    have he := wl_at (E := E) (w := w) hk0
    rw [ha.2] at he
    exact va_cald hC.1 hC.2.1 hC.2.2.2.2.2.2.2.2 hP k0 1 he rfl (ib_in hb) hd (h q hq p e s m args below meth c H locs ls hC hP hD hS hl)
  · rw [if_neg hb] at hq; cases hq
theorem gm_iast {g cl n : Nat} {i x : Int32} {K : Wd → Option (α × Wd)} (hd : decode cc pc = .ok (.iastore, 1)) (ha : AI E g cl n) (h : ∀ w1, Gm l E cc nL own rt R en (K w1) (w1) (pc + 1) (lv) (st)) : Gm l E cc nL own rt R en (if ib i n = true then letw (wup w g cl i.toNatClampNeg x) K else none) (w) (pc) (lv) (.int x :: .int i :: .ref (E.1 g cl) :: st) := by
  intro q hq p e s m args below meth c H locs ls hC hP hD hS hl
  by_cases hb : ib i n = true
  · rw [if_pos hb] at hq
    obtain ⟨k0, hk0⟩ := List.getElem?_of_mem ha.1
    have he := wl_at (E := E) (w := w) hk0
    rw [ha.2] at he
    refine va_iast hC.1 hC.2.1 hC.2.2.2.2.2.2.2.2 hP hD hS k0 0 he rfl (ib_in hb) hd (fun H locs hP hD2 hS => ?_)
    have hs := wl_set hk0 hD (upd (w g cl) i.toNatClampNeg x)
    rw [ha.2] at hs
    rw [hs] at hP hD2
    exact h _ q hq p e s m args below meth c H locs ls hC hP hD2 hS hl
  · rw [if_neg hb] at hq; cases hq
theorem gm_cast {g cl n : Nat} {i x : Int32} {K : Wd → Option (α × Wd)} (hd : decode cc pc = .ok (.castore, 1)) (ha : AC E g cl n) (h : ∀ w1, Gm l E cc nL own rt R en (K w1) (w1) (pc + 1) (lv) (st)) : Gm l E cc nL own rt R en (if ib i n = true then letw (wup w g cl i.toNatClampNeg (vp_nar .char x)) K else none) (w) (pc) (lv) (.int x :: .int i :: .ref (E.1 g cl) :: st) := by
  intro q hq p e s m args below meth c H locs ls hC hP hD hS hl
  by_cases hb : ib i n = true
  · rw [if_pos hb] at hq
    obtain ⟨k0, hk0⟩ := List.getElem?_of_mem ha.1
    have he := wl_at (E := E) (w := w) hk0
    rw [ha.2] at he
    refine va_cast hC.1 hC.2.1 hC.2.2.2.2.2.2.2.2 hP hD hS k0 1 he rfl (ib_in hb) hd (fun H locs hP hD2 hS => ?_)
    have hs := wl_set hk0 hD (upd (w g cl) i.toNatClampNeg (vp_nar .char x))
    rw [ha.2] at hs
    rw [hs] at hP hD2
    exact h _ q hq p e s m args below meth c H locs ls hC hP hD2 hS hl
  · rw [if_neg hb] at hq; cases hq
theorem gm_aald {g cl n : Nat} {f : Nat → Option Nat} {i : Int32} {a : Nat} (hd : decode cc pc = .ok (.aaload, 1)) (ha : AR E g cl n f) (hf : f i.toNatClampNeg = some a) (h : Gm l E cc nL own rt R en (res) (w) (pc + 1) (lv) (.ref a :: st)) : Gm l E cc nL own rt R en (if ib i n = true then res else none) (w) (pc) (lv) (.int i :: .ref (E.1 g cl) :: st) := by
  intro q hq p e s m args below meth c H locs ls hC hP hD hS hl
  by_cases hb : ib i n = true
  · rw [if_pos hb] at hq
    obtain ⟨k0, hk0⟩ := List.getElem?_of_mem ha.1
    have he := wl_at (E := E) (w := w) hk0
    rw [ha.2] at he
    refine va_aldq hC.1 hC.2.1 hC.2.2.2.2.2.2.2.2 hP k0 2 he rfl (ib_in hb) hd ?_
    rw [hf]
    exact h q hq p e s m args below meth c H locs ls hC hP hD hS hl
  · rw [if_neg hb] at hq; cases hq
theorem gm_alen {g cl n : Nat} {v : Int32} (hd : decode cc pc = .ok (.arraylength, 1)) (ha : AI E g cl n) (hv : Int32.ofNat n = v) (h : Gm l E cc nL own rt R en (res) (w) (pc + 1) (lv) (.int v :: st)) : Gm l E cc nL own rt R en (res) (w) (pc) (lv) (.ref (E.1 g cl) :: st) := by
  intro q hq p e s m args below meth c H locs ls hC hP hD hS hl
  obtain ⟨k0, hk0⟩ := List.getElem?_of_mem ha.1
  have he := wl_at (E := E) (w := w) hk0
  rw [ha.2] at he
  exact va_alen hC.1 hC.2.1 hC.2.2.2.2.2.2.2.2 hP k0 0 he rfl hv hd (h q hq p e s m args below meth c H locs ls hC hP hD hS hl)
theorem gm_copyi {g0 c0 n0 g cl n1 idx : Nat} {sp dp n : Int32} {sp1 dp1 n2 : Nat} {K : Wd → Option (α × Wd)} (hd : decode cc pc = .ok (.invokestatic idx, 3)) (ha0 : AI E g0 c0 n0) (ha1 : AI E g cl n1) (hlk : Cond.methodLink own idx arraycopyName ∈ lw_tbl) (hna : Cond.native arraycopyName ∈ lw_tbl) (hst : Cond.static arraycopyName ∈ lw_tbl) (hini : Cond.initialized "java/lang/System" ∈ lw_tbl) (e1 : sp.toNatClampNeg = sp1) (e2 : dp.toNatClampNeg = dp1) (e3 : n.toNatClampNeg = n2) (h1 : ¬ sp < 0) (h2 : ¬ dp < 0) (h3 : ¬ n < 0) (h4 : sp1 + n2 ≤ n0) (h5 : dp1 + n2 ≤ n1) (hfr : 1 ≤ R.frames) (hlo : (st.map fun v => v.category).sum + (nativeFrameWords "java/lang/System" "arraycopy" 5 + 11) ≤ R.locals) (h : ∀ w1, Gm l E cc nL own rt R en (K w1) (w1) (pc + 3) (lv) (st)) : Gm l E cc nL own rt R en (letw (wcp w g0 c0 g cl sp1 dp1 n2) K) (w) (pc) (lv) (.int n :: .int dp :: .ref (E.1 g cl) :: .int sp :: .ref (E.1 g0 c0) :: st) := by
  intro q hq p e s m args below meth c H locs ls hC hP hD hS hl
  subst e1; subst e2; subst e3
  obtain ⟨k0, hk0⟩ := List.getElem?_of_mem ha0.1
  have he0 := wl_at (E := E) (w := w) hk0
  rw [ha0.2] at he0
  obtain ⟨k1, hk1⟩ := List.getElem?_of_mem ha1.1
  have he1 := wl_at (E := E) (w := w) hk1
  rw [ha1.2] at he1
  have hml : c.maxLocals = ls.size := hC.2.2.1.trans hl.1.symm
  refine va_copyi hC.1 hC.2.1 hml hC.2.2.2.1 (hC.2.2.2.2.1 _ (gw_in hlk rfl)) (hC.2.2.2.2.1 _ (gw_in hna rfl)) (hC.2.2.2.2.1 _ (gw_in hst rfl)) (hC.2.2.2.2.1 _ (gw_in hini rfl)) hC.2.2.2.2.2.2.2.2 hP hD hS k0 k1 0 0 he0 he1 rfl rfl rfl h1 h2 h3 h4 h5 (fun _ _ => rfl) hfr hlo hd (fun H locs hP hD2 hS => ?_)
  have hs := wl_set hk1 hD (va_cpy (w g0 c0) (w g cl) sp.toNatClampNeg dp.toNatClampNeg n.toNatClampNeg)
  rw [ha1.2] at hs
  rw [hs] at hP hD2
  exact h _ q hq p e s m args below meth c H locs ls hC hP hD2 hS hl
theorem gm_iret {x : Int32} (hd : decode cc pc = .ok (.ireturn, 1)) : Gm l E cc nL own (some .int) R eI (some (x, w)) w pc lv (.int x :: []) := by
  intro q hq p e s m args below meth c H locs ls hC hP hD hS hl
  cases hq
  exact W.iret hC.1 hC.2.1 hC.2.2.2.2.2.2.1 (fun t ht hW => ⟨rfl, by rw [ht]; exact hP, va_K.moved hW.alike hC.2.2.2.2.2.2.2.2, hD, hS.F ht⟩) hS.2.2 hd hC.2.2.2.2.2.2.2.1
theorem gm_zret {x : Int32} {ty : FieldType} (hd : decode cc pc = .ok (.ireturn, 1)) (hn : narrow ty (.int x) = .int x) : Gm l E cc nL own (some ty) R eI (some (x, w)) w pc lv (.int x :: []) := by
  intro q hq p e s m args below meth c H locs ls hC hP hD hS hl
  cases hq
  exact W.zret hC.1 hC.2.1 hC.2.2.2.2.2.2.1 hn (fun t ht hW => ⟨rfl, by rw [ht]; exact hP, va_K.moved hW.alike hC.2.2.2.2.2.2.2.2, hD, hS.F ht⟩) hS.2.2 hd hC.2.2.2.2.2.2.2.1
theorem gm_lret {x : Int64} (hd : decode cc pc = .ok (.lreturn, 1)) : Gm l E cc nL own (some .long) R eL (some (x, w)) w pc lv (.long x :: []) := by
  intro q hq p e s m args below meth c H locs ls hC hP hD hS hl
  cases hq
  exact W.lret hC.1 hC.2.1 hC.2.2.2.2.2.2.1 (fun t ht hW => ⟨rfl, by rw [ht]; exact hP, va_K.moved hW.alike hC.2.2.2.2.2.2.2.2, hD, hS.F ht⟩) hS.2.2 hd hC.2.2.2.2.2.2.2.1
theorem gm_vret  (hd : decode cc pc = .ok (.return_, 1)) : Gm l E cc nL own (none) R eV (some ((), w)) w pc lv ([]) := by
  intro q hq p e s m args below meth c H locs ls hC hP hD hS hl
  cases hq
  exact W.vret hC.1 hC.2.1 hC.2.2.2.2.2.2.1 (fun t ht hW => ⟨rfl, by rw [ht]; exact hP, va_K.moved hW.alike hC.2.2.2.2.2.2.2.2, hD, hS.F ht⟩) hS.2.2 hd hC.2.2.2.2.2.2.2.1
theorem gm_aret {g k : Nat} {C : String} (hd : decode cc pc = .ok (.areturn, 1)) : Gm l E cc nL own (some (.object C)) R (eR E k) (some (g, w)) w pc lv (.ref (E.1 g k) :: []) := by
  intro q hq p e s m args below meth c H locs ls hC hP hD hS hl
  cases hq
  exact W.aret hC.1 hC.2.1 hC.2.2.2.2.2.2.1 (Or.inl ⟨_, rfl⟩) (Or.inr ⟨_, rfl⟩) (fun t ht hW => ⟨rfl, by rw [ht]; exact hP, va_K.moved hW.alike hC.2.2.2.2.2.2.2.2, hD, hS.F ht⟩) hS.2.2 hd hC.2.2.2.2.2.2.2.1
theorem Met.ofWF {y : MethodName} {ws ws' : List Cond} {rm : Room} {Pc : Array Value → State → Prop} {Qc : Array Value → State → Outcome → State → Prop} {mc ms : Nat} {free : Addr → Prop} {cc : ByteArray} {maxL : Nat} {ret : Option FieldType}
    (hy : plainFor y = true) (hw : ws = Cond.code y cc maxL ret :: ws')
    (body : ∀ p e s m args below meth c s₁, BodyLoose p l y (headSpec ws rm) cc maxL ret e s m args below meth c s₁ → c.maxLocals = maxL → Pc args s →
      W p l e (headSpec ws rm).room s m args below meth c s.heap [] 0 0 (MQ below Qc args s mc ms free) (entryFrame m args maxL)) : Met l y ws rm Pc Qc mc ms free := by
  refine MetFree.of_bodySF (code := cc) (maxLocals := maxL) (ret := ret) hy ?_ ?_
  · intro args s m h hn
    obtain ⟨meth, c, h1, h2, h3, h4, h5, h6, -, -⟩ := Cond.code_spec hn (atoms_spec (ws := ws) h _ (by rw [hw]; exact List.mem_cons_self))
    exact ⟨meth, c, h1, h2, h3, h4, h5, h6⟩
  · intro p e s m args below meth c s₁ B hml hP _
    have hh0 : s₁.heap = s.heap := by rw [B.state]; rfl
    obtain ⟨t, a1, o, b1, b2, b3⟩ := body p e s m args below meth c s₁ B hml hP s₁ hh0 (Stand.of_body B)
    exact ⟨t, o, a1, b1, b2, ⟨b3.1, b3.2⟩⟩
theorem Mt.of {en : α → Option Value} {F : Option (α × Wd)} {y : MethodName} {as : List Value} (lv0 : List (Option Value)) (hy : plainFor y = true) (hown : y.cls = own) (hle : (lg_sl as).length ≤ nL) (hlv : lv_args 0 as = lprs 0 lv0) (h : Gm l E cc nL own rt R en F w 0 lv0 []) : ∀ q, F = some q → Mt l E y cc nL rt R as w (en q.1) q.2 := by
  intro q hq
  refine Met.ofWF (cc := cc) (maxL := nL) (ret := rt) hy rfl ?_
  intro p e s m args below meth c s₁ B hml hv
  obtain ⟨rfl, hP, hK, hD, hN⟩ := hv
  rw [lg_entry_eq]
  have hl := lv_entry as hle
  rw [hlv] at hl
  exact h q hq p e s m _ below meth c s.heap [] _ ⟨B.exec, B.bytes, hml, by rw [← hown]; exact findClass_of_methodNamed B.named, fun w hw => atoms_spec (ws := .code y cc nL rt :: gwl) B.pre w (List.mem_cons_of_mem _ hw), hN, B.returns, B.notSynchronized, hK⟩ hP hD va_S.rf (has_lh hl)
theorem Mt.at {en : α → Option Value} {y : MethodName} {as : List Value} {w' : Wd} {r : α} (h : ∀ q, some (r, w') = some q → Mt l E y cc nL rt R as w (en q.1) q.2) : Mt l E y cc nL rt R as w (en r) w' := h _ rfl
/-- what the tables say of a method: instance, static -/
def CY (y : MethodName) (cc' : ByteArray) (n' : Nat) (ret' : Option FieldType) (C : String) (np : Nat) : Prop := Cond.instanceMethod y ∈ lw_tbl ∧ Cond.selects C y y ∈ lw_tbl ∧ Cond.code y cc' n' ret' ∈ lw_tbl ∧ Cond.initialized y.cls ∈ lw_tbl ∧ (y.cls ≠ "java/lang/invoke/MethodHandle" ∧ y.cls ≠ "java/lang/invoke/VarHandle" ∧ (parseMethodDescriptor y.desc).map (fun d => d.parameters.length) = some np)
def CS (y : MethodName) (cc' : ByteArray) (n' : Nat) (ret' : Option FieldType) (np : Nat) : Prop := Cond.static y ∈ lw_tbl ∧ Cond.code y cc' n' ret' ∈ lw_tbl ∧ Cond.initialized y.cls ∈ lw_tbl ∧ (y.cls ≠ "java/lang/invoke/MethodHandle" ∧ y.cls ≠ "java/lang/invoke/VarHandle" ∧ (parseMethodDescriptor y.desc).map (fun d => d.parameters.length) = some np)
def Rm (R rm : Room) (n' : Nat) : Prop := (rm.cells = 0 ∧ rm.slots = 0) ∧ rm.frames + 1 ≤ R.frames ∧ 8 + (n' + 11) + rm.locals ≤ R.locals

/-- behind a call -/
theorem gm_back {H : Heap} {locs : List Loc} {p : Program} {e : Env} {s : State} {m : MethodId} {args : Array Value} {below : List Frame} {meth : Method} {c : Code} {ls : Array Slot} {w' : Wd} {r : Option Value} {a : Array Value} {stk rest : List Value} {Q : State → Prop} (hS : va_S (AA E) s.heap H locs) (hr : va_Run p l e R s m args below meth c H locs 0 0 0 0 (F0 m pc ls stk) rest (Qm E r w' a) (AA E))
    (kk : ∀ (H1 : Heap) (locs1 : List Loc), va_P E.2.1 vwCl (wl E w') H1 → va_D (AA E) (wl E w') → va_S (AA E) s.heap H1 locs1 → W p l e R s m args below meth c H1 locs1 0 0 Q (F0 m (pc + 3) ls (r.toList ++ rest))) : W p l e R s m args below meth c H locs 0 0 Q (F0 m pc ls stk) := by
  intro T hT X
  obtain ⟨v, st₀, t, T', L, h0, X', hL, e1, e2, ⟨hv, hP, hK, hD, hz, hk⟩, st⟩ := hr T hT X
  cases hv
  rw [h0] at hz hk
  obtain ⟨t2, a1, b1⟩ := kk T'.heap (locs ++ L) (by rw [e1]; exact hP) hD ⟨Nat.le_trans hS.1 (by rw [e1]; exact hz), fun q h1 h2 => by rw [e1, hk q (Nat.lt_of_lt_of_le h1 hS.1) h2]; exact hS.2.1 q h1 h2, fun q hq => by
      rcases List.mem_append.mp hq with h | h
      · exact hS.2.2 q h
      · exact hL q h⟩ T' rfl X'
  exact ⟨t2, st t2 a1, b1⟩
theorem gm_callVi {g cl : Nat} {F : Option (Int32 × Wd)} {K : Int32 × Wd → Option (α × Wd)} {y : MethodName} {cc' : ByteArray} {n' np idx : Nat} {ret' : Option FieldType} {rm : Room} {As stk : List Value} (hd : decode cc pc = .ok (.invokevirtual idx, 3)) (hM : ∀ q1, F = some q1 → Mt l E y cc' n' ret' rm (.ref (E.1 g cl) :: As) w (eI q1.1) q1.2) {ci N : Nat} {C : String} {T : u_T} {fs : (Nat → Int32) → List Value} (ho : OB E g cl ci fs) (hc : vwCl[ci]? = some (C, T, N)) (hy : CY y cc' n' ret' C np) (hlk : Cond.methodLink own idx y ∈ lw_tbl) (hstk : stk = As.reverse ++ .ref (E.1 g cl) :: st) (hnp : As.length = np) (hro : Rm R rm n') (hst : (st.map fun v => v.category).sum ≤ 8) (h : ∀ q1, Gm l E cc nL own rt R en (K q1) (q1.2) (pc + 3) (lv) (.int q1.1 :: st)) : Gm l E cc nL own rt R en (F.bind K) (w) (pc) (lv) (stk) := by
  intro q hq p e s m args below meth c H locs ls hC hP hD hS hl
  have hp : ∀ U : State, U.heap = H → s.WarmedH U.vm → Wk E w U := fun U hU hW => ⟨by rw [hU]; exact hP, va_K.moved hW.alike hC.2.2.2.2.2.2.2.2, hD, hC.2.2.2.2.2.1.warm hW⟩
  have tb : ∀ {z : Cond}, z ∈ lw_tbl → goodWord z = true → z.before args s = true := fun h1 h2 => hC.2.2.2.2.1 _ (gw_in h1 h2)
  obtain ⟨q1, hq1, hq2⟩ := Option.bind_eq_some_iff.mp hq
  have hM := hM q1 hq1
  obtain ⟨k0, hk0⟩ := List.getElem?_of_mem ho.1
  have he := wl_at (E := E) (w := w) hk0
  rw [ho.2] at he
  have hrun := va_runV (locs := locs) (below := below) (meth := meth) (e := e) (l := l) (cells := 0) (slots := 0) (As := As) (rest := st) (g := F0 m pc ls stk) (Ts := .code y cc' n' ret' :: gwl) ⟨hC.1, hC.2.1, hC.2.2.1, hC.2.2.2.1, fun z hz => (List.mem_cons.mp hz).elim (fun e => by rw [e]; exact tb hy.2.2.1 rfl) (hC.2.2.2.2.1 z)⟩ hM ⟨callB_of np (Ts := .code y cc' n' ret' :: gwl) (fun z hz => (List.mem_cons.mp hz).elim (fun e => by rw [e]; exact tb hy.2.2.1 rfl) (hC.2.2.2.2.1 z)) (gw_good hy.2.2.1 rfl) rfl hro.1.1 hro.1.2 (tb hy.2.2.2.1 rfl) (tb hlk rfl) hy.2.2.2.2 hro.2, tb hy.1 rfl, tb hy.2.1 rfl⟩ ⟨Wk.blind, va_recv hC.2.2.2.2.2.2.2.2 hP hc he, fun U hU hW => ⟨rfl, hp U hU hW⟩⟩ rfl hnp hl.1 hstk (lv_room hst) hd ⟨Nat.zero_le _, Nat.zero_le _⟩
  exact gm_back hS hrun (fun H1 locs1 hP1 hD1 hS1 => h q1 q hq2 p e s m args below meth c H1 locs1 ls hC hP1 hD1 hS1 hl)
theorem gm_callVl {g cl : Nat} {F : Option (Int64 × Wd)} {K : Int64 × Wd → Option (α × Wd)} {y : MethodName} {cc' : ByteArray} {n' np idx : Nat} {ret' : Option FieldType} {rm : Room} {As stk : List Value} (hd : decode cc pc = .ok (.invokevirtual idx, 3)) (hM : ∀ q1, F = some q1 → Mt l E y cc' n' ret' rm (.ref (E.1 g cl) :: As) w (eL q1.1) q1.2) {ci N : Nat} {C : String} {T : u_T} {fs : (Nat → Int32) → List Value} (ho : OB E g cl ci fs) (hc : vwCl[ci]? = some (C, T, N)) (hy : CY y cc' n' ret' C np) (hlk : Cond.methodLink own idx y ∈ lw_tbl) (hstk : stk = As.reverse ++ .ref (E.1 g cl) :: st) (hnp : As.length = np) (hro : Rm R rm n') (hst : (st.map fun v => v.category).sum ≤ 8) (h : ∀ q1, Gm l E cc nL own rt R en (K q1) (q1.2) (pc + 3) (lv) (.long q1.1 :: st)) : Gm l E cc nL own rt R en (F.bind K) (w) (pc) (lv) (stk) := by
  intro q hq p e s m args below meth c H locs ls hC hP hD hS hl
  have hp : ∀ U : State, U.heap = H → s.WarmedH U.vm → Wk E w U := fun U hU hW => ⟨by rw [hU]; exact hP, va_K.moved hW.alike hC.2.2.2.2.2.2.2.2, hD, hC.2.2.2.2.2.1.warm hW⟩
  have tb : ∀ {z : Cond}, z ∈ lw_tbl → goodWord z = true → z.before args s = true := fun h1 h2 => hC.2.2.2.2.1 _ (gw_in h1 h2)
  obtain ⟨q1, hq1, hq2⟩ := Option.bind_eq_some_iff.mp hq
  have hM := hM q1 hq1
  obtain ⟨k0, hk0⟩ := List.getElem?_of_mem ho.1
  have he := wl_at (E := E) (w := w) hk0
  rw [ho.2] at he
  have hrun := va_runV (locs := locs) (below := below) (meth := meth) (e := e) (l := l) (cells := 0) (slots := 0) (As := As) (rest := st) (g := F0 m pc ls stk) (Ts := .code y cc' n' ret' :: gwl) ⟨hC.1, hC.2.1, hC.2.2.1, hC.2.2.2.1, fun z hz => (List.mem_cons.mp hz).elim (fun e => by rw [e]; exact tb hy.2.2.1 rfl) (hC.2.2.2.2.1 z)⟩ hM ⟨callB_of np (Ts := .code y cc' n' ret' :: gwl) (fun z hz => (List.mem_cons.mp hz).elim (fun e => by rw [e]; exact tb hy.2.2.1 rfl) (hC.2.2.2.2.1 z)) (gw_good hy.2.2.1 rfl) rfl hro.1.1 hro.1.2 (tb hy.2.2.2.1 rfl) (tb hlk rfl) hy.2.2.2.2 hro.2, tb hy.1 rfl, tb hy.2.1 rfl⟩ ⟨Wk.blind, va_recv hC.2.2.2.2.2.2.2.2 hP hc he, fun U hU hW => ⟨rfl, hp U hU hW⟩⟩ rfl hnp hl.1 hstk (lv_room hst) hd ⟨Nat.zero_le _, Nat.zero_le _⟩
  exact gm_back hS hrun (fun H1 locs1 hP1 hD1 hS1 => h q1 q hq2 p e s m args below meth c H1 locs1 ls hC hP1 hD1 hS1 hl)
theorem gm_callVv {g cl : Nat} {F : Option (Unit × Wd)} {K : Unit × Wd → Option (α × Wd)} {y : MethodName} {cc' : ByteArray} {n' np idx : Nat} {ret' : Option FieldType} {rm : Room} {As stk : List Value} (hd : decode cc pc = .ok (.invokevirtual idx, 3)) (hM : ∀ q1, F = some q1 → Mt l E y cc' n' ret' rm (.ref (E.1 g cl) :: As) w (eV q1.1) q1.2) {ci N : Nat} {C : String} {T : u_T} {fs : (Nat → Int32) → List Value} (ho : OB E g cl ci fs) (hc : vwCl[ci]? = some (C, T, N)) (hy : CY y cc' n' ret' C np) (hlk : Cond.methodLink own idx y ∈ lw_tbl) (hstk : stk = As.reverse ++ .ref (E.1 g cl) :: st) (hnp : As.length = np) (hro : Rm R rm n') (hst : (st.map fun v => v.category).sum ≤ 8) (h : ∀ q1, Gm l E cc nL own rt R en (K q1) (q1.2) (pc + 3) (lv) (st)) : Gm l E cc nL own rt R en (F.bind K) (w) (pc) (lv) (stk) := by
  intro q hq p e s m args below meth c H locs ls hC hP hD hS hl
  have hp : ∀ U : State, U.heap = H → s.WarmedH U.vm → Wk E w U := fun U hU hW => ⟨by rw [hU]; exact hP, va_K.moved hW.alike hC.2.2.2.2.2.2.2.2, hD, hC.2.2.2.2.2.1.warm hW⟩
  have tb : ∀ {z : Cond}, z ∈ lw_tbl → goodWord z = true → z.before args s = true := fun h1 h2 => hC.2.2.2.2.1 _ (gw_in h1 h2)
  obtain ⟨q1, hq1, hq2⟩ := Option.bind_eq_some_iff.mp hq
  have hM := hM q1 hq1
  obtain ⟨k0, hk0⟩ := List.getElem?_of_mem ho.1
  have he := wl_at (E := E) (w := w) hk0
  rw [ho.2] at he
  have hrun := va_runV (locs := locs) (below := below) (meth := meth) (e := e) (l := l) (cells := 0) (slots := 0) (As := As) (rest := st) (g := F0 m pc ls stk) (Ts := .code y cc' n' ret' :: gwl) ⟨hC.1, hC.2.1, hC.2.2.1, hC.2.2.2.1, fun z hz => (List.mem_cons.mp hz).elim (fun e => by rw [e]; exact tb hy.2.2.1 rfl) (hC.2.2.2.2.1 z)⟩ hM ⟨callB_of np (Ts := .code y cc' n' ret' :: gwl) (fun z hz => (List.mem_cons.mp hz).elim (fun e => by rw [e]; exact tb hy.2.2.1 rfl) (hC.2.2.2.2.1 z)) (gw_good hy.2.2.1 rfl) rfl hro.1.1 hro.1.2 (tb hy.2.2.2.1 rfl) (tb hlk rfl) hy.2.2.2.2 hro.2, tb hy.1 rfl, tb hy.2.1 rfl⟩ ⟨Wk.blind, va_recv hC.2.2.2.2.2.2.2.2 hP hc he, fun U hU hW => ⟨rfl, hp U hU hW⟩⟩ rfl hnp hl.1 hstk (lv_room hst) hd ⟨Nat.zero_le _, Nat.zero_le _⟩
  exact gm_back hS hrun (fun H1 locs1 hP1 hD1 hS1 => h q1 q hq2 p e s m args below meth c H1 locs1 ls hC hP1 hD1 hS1 hl)
theorem gm_callVk {g cl : Nat} {v : Value} {y : MethodName} {cc' : ByteArray} {n' np idx : Nat} {ret' : Option FieldType} {rm : Room} {As stk : List Value} (hd : decode cc pc = .ok (.invokevirtual idx, 3)) (hM : Mt l E y cc' n' ret' rm (.ref (E.1 g cl) :: As) w (some v) w) {ci N : Nat} {C : String} {T : u_T} {fs : (Nat → Int32) → List Value} (ho : OB E g cl ci fs) (hc : vwCl[ci]? = some (C, T, N)) (hy : CY y cc' n' ret' C np) (hlk : Cond.methodLink own idx y ∈ lw_tbl) (hstk : stk = As.reverse ++ .ref (E.1 g cl) :: st) (hnp : As.length = np) (hro : Rm R rm n') (hst : (st.map fun v => v.category).sum ≤ 8) (h : Gm l E cc nL own rt R en (res) (w) (pc + 3) (lv) (v :: st)) : Gm l E cc nL own rt R en (res) (w) (pc) (lv) (stk) := by
  intro q hq p e s m args below meth c H locs ls hC hP hD hS hl
  have hp : ∀ U : State, U.heap = H → s.WarmedH U.vm → Wk E w U := fun U hU hW => ⟨by rw [hU]; exact hP, va_K.moved hW.alike hC.2.2.2.2.2.2.2.2, hD, hC.2.2.2.2.2.1.warm hW⟩
  have tb : ∀ {z : Cond}, z ∈ lw_tbl → goodWord z = true → z.before args s = true := fun h1 h2 => hC.2.2.2.2.1 _ (gw_in h1 h2)
  obtain ⟨k0, hk0⟩ := List.getElem?_of_mem ho.1
  have he := wl_at (E := E) (w := w) hk0
  rw [ho.2] at he
  have hrun := va_runV (locs := locs) (below := below) (meth := meth) (e := e) (l := l) (cells := 0) (slots := 0) (As := As) (rest := st) (g := F0 m pc ls stk) (Ts := .code y cc' n' ret' :: gwl) ⟨hC.1, hC.2.1, hC.2.2.1, hC.2.2.2.1, fun z hz => (List.mem_cons.mp hz).elim (fun e => by rw [e]; exact tb hy.2.2.1 rfl) (hC.2.2.2.2.1 z)⟩ hM ⟨callB_of np (Ts := .code y cc' n' ret' :: gwl) (fun z hz => (List.mem_cons.mp hz).elim (fun e => by rw [e]; exact tb hy.2.2.1 rfl) (hC.2.2.2.2.1 z)) (gw_good hy.2.2.1 rfl) rfl hro.1.1 hro.1.2 (tb hy.2.2.2.1 rfl) (tb hlk rfl) hy.2.2.2.2 hro.2, tb hy.1 rfl, tb hy.2.1 rfl⟩ ⟨Wk.blind, va_recv hC.2.2.2.2.2.2.2.2 hP hc he, fun U hU hW => ⟨rfl, hp U hU hW⟩⟩ rfl hnp hl.1 hstk (lv_room hst) hd ⟨Nat.zero_le _, Nat.zero_le _⟩
  exact gm_back hS hrun (fun H1 locs1 hP1 hD1 hS1 => h q hq p e s m args below meth c H1 locs1 ls hC hP1 hD1 hS1 hl)
theorem gm_callSi {F : Option (Int32 × Wd)} {K : Int32 × Wd → Option (α × Wd)} {y : MethodName} {cc' : ByteArray} {n' np idx : Nat} {ret' : Option FieldType} {rm : Room} {As stk : List Value} (hd : decode cc pc = .ok (.invokestatic idx, 3)) (hM : ∀ q1, F = some q1 → Mt l E y cc' n' ret' rm (As) w (eI q1.1) q1.2) (hy : CS y cc' n' ret' np) (hlk : Cond.methodLink own idx y ∈ lw_tbl) (hstk : stk = As.reverse ++ st) (hnp : As.length = np) (hro : Rm R rm n') (hst : (st.map fun v => v.category).sum ≤ 8) (h : ∀ q1, Gm l E cc nL own rt R en (K q1) (q1.2) (pc + 3) (lv) (.int q1.1 :: st)) : Gm l E cc nL own rt R en (F.bind K) (w) (pc) (lv) (stk) := by
  intro q hq p e s m args below meth c H locs ls hC hP hD hS hl
  have hp : ∀ U : State, U.heap = H → s.WarmedH U.vm → Wk E w U := fun U hU hW => ⟨by rw [hU]; exact hP, va_K.moved hW.alike hC.2.2.2.2.2.2.2.2, hD, hC.2.2.2.2.2.1.warm hW⟩
  have tb : ∀ {z : Cond}, z ∈ lw_tbl → goodWord z = true → z.before args s = true := fun h1 h2 => hC.2.2.2.2.1 _ (gw_in h1 h2)
  obtain ⟨q1, hq1, hq2⟩ := Option.bind_eq_some_iff.mp hq
  have hM := hM q1 hq1
  have hrun := va_runS (locs := locs) (below := below) (meth := meth) (e := e) (l := l) (cells := 0) (slots := 0) (As := As) (rest := st) (g := F0 m pc ls stk) (Ts := .code y cc' n' ret' :: gwl) ⟨hC.1, hC.2.1, hC.2.2.1, hC.2.2.2.1, fun z hz => (List.mem_cons.mp hz).elim (fun e => by rw [e]; exact tb hy.2.1 rfl) (hC.2.2.2.2.1 z)⟩ hM ⟨callB_of np (Ts := .code y cc' n' ret' :: gwl) (fun z hz => (List.mem_cons.mp hz).elim (fun e => by rw [e]; exact tb hy.2.1 rfl) (hC.2.2.2.2.1 z)) (gw_good hy.2.1 rfl) rfl hro.1.1 hro.1.2 (tb hy.2.2.1 rfl) (tb hlk rfl) hy.2.2.2 hro.2, tb hy.1 rfl⟩ ⟨Wk.blind, fun U hU hW => ⟨rfl, hp U hU hW⟩⟩ rfl hnp hl.1 hstk (lv_room hst) hd ⟨Nat.zero_le _, Nat.zero_le _⟩
  exact gm_back hS hrun (fun H1 locs1 hP1 hD1 hS1 => h q1 q hq2 p e s m args below meth c H1 locs1 ls hC hP1 hD1 hS1 hl)
theorem gm_callSl {F : Option (Int64 × Wd)} {K : Int64 × Wd → Option (α × Wd)} {y : MethodName} {cc' : ByteArray} {n' np idx : Nat} {ret' : Option FieldType} {rm : Room} {As stk : List Value} (hd : decode cc pc = .ok (.invokestatic idx, 3)) (hM : ∀ q1, F = some q1 → Mt l E y cc' n' ret' rm (As) w (eL q1.1) q1.2) (hy : CS y cc' n' ret' np) (hlk : Cond.methodLink own idx y ∈ lw_tbl) (hstk : stk = As.reverse ++ st) (hnp : As.length = np) (hro : Rm R rm n') (hst : (st.map fun v => v.category).sum ≤ 8) (h : ∀ q1, Gm l E cc nL own rt R en (K q1) (q1.2) (pc + 3) (lv) (.long q1.1 :: st)) : Gm l E cc nL own rt R en (F.bind K) (w) (pc) (lv) (stk) := by
  intro q hq p e s m args below meth c H locs ls hC hP hD hS hl
  have hp : ∀ U : State, U.heap = H → s.WarmedH U.vm → Wk E w U := fun U hU hW => ⟨by rw [hU]; exact hP, va_K.moved hW.alike hC.2.2.2.2.2.2.2.2, hD, hC.2.2.2.2.2.1.warm hW⟩
  have tb : ∀ {z : Cond}, z ∈ lw_tbl → goodWord z = true → z.before args s = true := fun h1 h2 => hC.2.2.2.2.1 _ (gw_in h1 h2)
  obtain ⟨q1, hq1, hq2⟩ := Option.bind_eq_some_iff.mp hq
  have hM := hM q1 hq1
  have hrun := va_runS (locs := locs) (below := below) (meth := meth) (e := e) (l := l) (cells := 0) (slots := 0) (As := As) (rest := st) (g := F0 m pc ls stk) (Ts := .code y cc' n' ret' :: gwl) ⟨hC.1, hC.2.1, hC.2.2.1, hC.2.2.2.1, fun z hz => (List.mem_cons.mp hz).elim (fun e => by rw [e]; exact tb hy.2.1 rfl) (hC.2.2.2.2.1 z)⟩ hM ⟨callB_of np (Ts := .code y cc' n' ret' :: gwl) (fun z hz => (List.mem_cons.mp hz).elim (fun e => by rw [e]; exact tb hy.2.1 rfl) (hC.2.2.2.2.1 z)) (gw_good hy.2.1 rfl) rfl hro.1.1 hro.1.2 (tb hy.2.2.1 rfl) (tb hlk rfl) hy.2.2.2 hro.2, tb hy.1 rfl⟩ ⟨Wk.blind, fun U hU hW => ⟨rfl, hp U hU hW⟩⟩ rfl hnp hl.1 hstk (lv_room hst) hd ⟨Nat.zero_le _, Nat.zero_le _⟩
  exact gm_back hS hrun (fun H1 locs1 hP1 hD1 hS1 => h q1 q hq2 p e s m args below meth c H1 locs1 ls hC hP1 hD1 hS1 hl)
theorem gm_callSv {F : Option (Unit × Wd)} {K : Unit × Wd → Option (α × Wd)} {y : MethodName} {cc' : ByteArray} {n' np idx : Nat} {ret' : Option FieldType} {rm : Room} {As stk : List Value} (hd : decode cc pc = .ok (.invokestatic idx, 3)) (hM : ∀ q1, F = some q1 → Mt l E y cc' n' ret' rm (As) w (eV q1.1) q1.2) (hy : CS y cc' n' ret' np) (hlk : Cond.methodLink own idx y ∈ lw_tbl) (hstk : stk = As.reverse ++ st) (hnp : As.length = np) (hro : Rm R rm n') (hst : (st.map fun v => v.category).sum ≤ 8) (h : ∀ q1, Gm l E cc nL own rt R en (K q1) (q1.2) (pc + 3) (lv) (st)) : Gm l E cc nL own rt R en (F.bind K) (w) (pc) (lv) (stk) := by
  intro q hq p e s m args below meth c H locs ls hC hP hD hS hl
  have hp : ∀ U : State, U.heap = H → s.WarmedH U.vm → Wk E w U := fun U hU hW => ⟨by rw [hU]; exact hP, va_K.moved hW.alike hC.2.2.2.2.2.2.2.2, hD, hC.2.2.2.2.2.1.warm hW⟩
  have tb : ∀ {z : Cond}, z ∈ lw_tbl → goodWord z = true → z.before args s = true := fun h1 h2 => hC.2.2.2.2.1 _ (gw_in h1 h2)
  obtain ⟨q1, hq1, hq2⟩ := Option.bind_eq_some_iff.mp hq
  have hM := hM q1 hq1
  have hrun := va_runS (locs := locs) (below := below) (meth := meth) (e := e) (l := l) (cells := 0) (slots := 0) (As := As) (rest := st) (g := F0 m pc ls stk) (Ts := .code y cc' n' ret' :: gwl) ⟨hC.1, hC.2.1, hC.2.2.1, hC.2.2.2.1, fun z hz => (List.mem_cons.mp hz).elim (fun e => by rw [e]; exact tb hy.2.1 rfl) (hC.2.2.2.2.1 z)⟩ hM ⟨callB_of np (Ts := .code y cc' n' ret' :: gwl) (fun z hz => (List.mem_cons.mp hz).elim (fun e => by rw [e]; exact tb hy.2.1 rfl) (hC.2.2.2.2.1 z)) (gw_good hy.2.1 rfl) rfl hro.1.1 hro.1.2 (tb hy.2.2.1 rfl) (tb hlk rfl) hy.2.2.2 hro.2, tb hy.1 rfl⟩ ⟨Wk.blind, fun U hU hW => ⟨rfl, hp U hU hW⟩⟩ rfl hnp hl.1 hstk (lv_room hst) hd ⟨Nat.zero_le _, Nat.zero_le _⟩
  exact gm_back hS hrun (fun H1 locs1 hP1 hD1 hS1 => h q1 q hq2 p e s m args below meth c H1 locs1 ls hC hP1 hD1 hS1 hl)
theorem gm_callSk {v : Value} {y : MethodName} {cc' : ByteArray} {n' np idx : Nat} {ret' : Option FieldType} {rm : Room} {As stk : List Value} (hd : decode cc pc = .ok (.invokestatic idx, 3)) (hM : Mt l E y cc' n' ret' rm (As) w (some v) w) (hy : CS y cc' n' ret' np) (hlk : Cond.methodLink own idx y ∈ lw_tbl) (hstk : stk = As.reverse ++ st) (hnp : As.length = np) (hro : Rm R rm n') (hst : (st.map fun v => v.category).sum ≤ 8) (h : Gm l E cc nL own rt R en (res) (w) (pc + 3) (lv) (v :: st)) : Gm l E cc nL own rt R en (res) (w) (pc) (lv) (stk) := by
  intro q hq p e s m args below meth c H locs ls hC hP hD hS hl
  have hp : ∀ U : State, U.heap = H → s.WarmedH U.vm → Wk E w U := fun U hU hW => ⟨by rw [hU]; exact hP, va_K.moved hW.alike hC.2.2.2.2.2.2.2.2, hD, hC.2.2.2.2.2.1.warm hW⟩
  have tb : ∀ {z : Cond}, z ∈ lw_tbl → goodWord z = true → z.before args s = true := fun h1 h2 => hC.2.2.2.2.1 _ (gw_in h1 h2)
  have hrun := va_runS (locs := locs) (below := below) (meth := meth) (e := e) (l := l) (cells := 0) (slots := 0) (As := As) (rest := st) (g := F0 m pc ls stk) (Ts := .code y cc' n' ret' :: gwl) ⟨hC.1, hC.2.1, hC.2.2.1, hC.2.2.2.1, fun z hz => (List.mem_cons.mp hz).elim (fun e => by rw [e]; exact tb hy.2.1 rfl) (hC.2.2.2.2.1 z)⟩ hM ⟨callB_of np (Ts := .code y cc' n' ret' :: gwl) (fun z hz => (List.mem_cons.mp hz).elim (fun e => by rw [e]; exact tb hy.2.1 rfl) (hC.2.2.2.2.1 z)) (gw_good hy.2.1 rfl) rfl hro.1.1 hro.1.2 (tb hy.2.2.1 rfl) (tb hlk rfl) hy.2.2.2 hro.2, tb hy.1 rfl⟩ ⟨Wk.blind, fun U hU hW => ⟨rfl, hp U hU hW⟩⟩ rfl hnp hl.1 hstk (lv_room hst) hd ⟨Nat.zero_le _, Nat.zero_le _⟩
  exact gm_back hS hrun (fun H1 locs1 hP1 hD1 hS1 => h q hq p e s m args below meth c H1 locs1 ls hC hP1 hD1 hS1 hl)
theorem gm_callNi {F : Option (Int32 × Wd)} {K : Int32 × Wd → Option (α × Wd)} {y : MethodName} {cc' : ByteArray} {n' np idx : Nat} {ret' : Option FieldType} {rm : Room} {As stk : List Value} (hd : decode cc pc = .ok (.invokestatic idx, 3)) (hM : ∀ q1, F = some q1 → Mt l E y cc' n' ret' rm (As) w (eI q1.1) q1.2) {host : String} (hy : CS y cc' n' ret' np) (hlk : Cond.methodLinkNest own idx y host ∈ lw_tbl) (hstk : stk = As.reverse ++ st) (hnp : As.length = np) (hro : Rm R rm n') (hst : (st.map fun v => v.category).sum ≤ 8) (h : ∀ q1, Gm l E cc nL own rt R en (K q1) (q1.2) (pc + 3) (lv) (.int q1.1 :: st)) : Gm l E cc nL own rt R en (F.bind K) (w) (pc) (lv) (stk) := by
  intro q hq p e s m args below meth c H locs ls hC hP hD hS hl
  have hp : ∀ U : State, U.heap = H → s.WarmedH U.vm → Wk E w U := fun U hU hW => ⟨by rw [hU]; exact hP, va_K.moved hW.alike hC.2.2.2.2.2.2.2.2, hD, hC.2.2.2.2.2.1.warm hW⟩
  have tb : ∀ {z : Cond}, z ∈ lw_tbl → goodWord z = true → z.before args s = true := fun h1 h2 => hC.2.2.2.2.1 _ (gw_in h1 h2)
  obtain ⟨q1, hq1, hq2⟩ := Option.bind_eq_some_iff.mp hq
  have hM := hM q1 hq1
  have hrun := va_runSN (locs := locs) (below := below) (meth := meth) (e := e) (l := l) (cells := 0) (slots := 0) (As := As) (rest := st) (g := F0 m pc ls stk) (Ts := .code y cc' n' ret' :: gwl) ⟨hC.1, hC.2.1, hC.2.2.1, hC.2.2.2.1, fun z hz => (List.mem_cons.mp hz).elim (fun e => by rw [e]; exact tb hy.2.1 rfl) (hC.2.2.2.2.1 z)⟩ hM ⟨va_cnB np (Ts := .code y cc' n' ret' :: gwl) (fun z hz => (List.mem_cons.mp hz).elim (fun e => by rw [e]; exact tb hy.2.1 rfl) (hC.2.2.2.2.1 z)) (gw_good hy.2.1 rfl) rfl hro.1.1 hro.1.2 (hC.2.2.2.2.2.1 _ hlk rfl) (tb hy.2.2.1 rfl) hy.2.2.2 hro.2, tb hy.1 rfl, trivial⟩ ⟨Wk.blind, fun U hU hW => ⟨rfl, hp U hU hW⟩⟩ rfl hnp hl.1 hstk (lv_room hst) hd ⟨Nat.zero_le _, Nat.zero_le _⟩
  exact gm_back hS hrun (fun H1 locs1 hP1 hD1 hS1 => h q1 q hq2 p e s m args below meth c H1 locs1 ls hC hP1 hD1 hS1 hl)
theorem gm_callNl {F : Option (Int64 × Wd)} {K : Int64 × Wd → Option (α × Wd)} {y : MethodName} {cc' : ByteArray} {n' np idx : Nat} {ret' : Option FieldType} {rm : Room} {As stk : List Value} (hd : decode cc pc = .ok (.invokestatic idx, 3)) (hM : ∀ q1, F = some q1 → Mt l E y cc' n' ret' rm (As) w (eL q1.1) q1.2) {host : String} (hy : CS y cc' n' ret' np) (hlk : Cond.methodLinkNest own idx y host ∈ lw_tbl) (hstk : stk = As.reverse ++ st) (hnp : As.length = np) (hro : Rm R rm n') (hst : (st.map fun v => v.category).sum ≤ 8) (h : ∀ q1, Gm l E cc nL own rt R en (K q1) (q1.2) (pc + 3) (lv) (.long q1.1 :: st)) : Gm l E cc nL own rt R en (F.bind K) (w) (pc) (lv) (stk) := by
  intro q hq p e s m args below meth c H locs ls hC hP hD hS hl
  have hp : ∀ U : State, U.heap = H → s.WarmedH U.vm → Wk E w U := fun U hU hW => ⟨by rw [hU]; exact hP, va_K.moved hW.alike hC.2.2.2.2.2.2.2.2, hD, hC.2.2.2.2.2.1.warm hW⟩
  have tb : ∀ {z : Cond}, z ∈ lw_tbl → goodWord z = true → z.before args s = true := fun h1 h2 => hC.2.2.2.2.1 _ (gw_in h1 h2)
  obtain ⟨q1, hq1, hq2⟩ := Option.bind_eq_some_iff.mp hq
  have hM := hM q1 hq1
  have hrun := va_runSN (locs := locs) (below := below) (meth := meth) (e := e) (l := l) (cells := 0) (slots := 0) (As := As) (rest := st) (g := F0 m pc ls stk) (Ts := .code y cc' n' ret' :: gwl) ⟨hC.1, hC.2.1, hC.2.2.1, hC.2.2.2.1, fun z hz => (List.mem_cons.mp hz).elim (fun e => by rw [e]; exact tb hy.2.1 rfl) (hC.2.2.2.2.1 z)⟩ hM ⟨va_cnB np (Ts := .code y cc' n' ret' :: gwl) (fun z hz => (List.mem_cons.mp hz).elim (fun e => by rw [e]; exact tb hy.2.1 rfl) (hC.2.2.2.2.1 z)) (gw_good hy.2.1 rfl) rfl hro.1.1 hro.1.2 (hC.2.2.2.2.2.1 _ hlk rfl) (tb hy.2.2.1 rfl) hy.2.2.2 hro.2, tb hy.1 rfl, trivial⟩ ⟨Wk.blind, fun U hU hW => ⟨rfl, hp U hU hW⟩⟩ rfl hnp hl.1 hstk (lv_room hst) hd ⟨Nat.zero_le _, Nat.zero_le _⟩
  exact gm_back hS hrun (fun H1 locs1 hP1 hD1 hS1 => h q1 q hq2 p e s m args below meth c H1 locs1 ls hC hP1 hD1 hS1 hl)
theorem gm_callNv {F : Option (Unit × Wd)} {K : Unit × Wd → Option (α × Wd)} {y : MethodName} {cc' : ByteArray} {n' np idx : Nat} {ret' : Option FieldType} {rm : Room} {As stk : List Value} (hd : decode cc pc = .ok (.invokestatic idx, 3)) (hM : ∀ q1, F = some q1 → Mt l E y cc' n' ret' rm (As) w (eV q1.1) q1.2) {host : String} (hy : CS y cc' n' ret' np) (hlk : Cond.methodLinkNest own idx y host ∈ lw_tbl) (hstk : stk = As.reverse ++ st) (hnp : As.length = np) (hro : Rm R rm n') (hst : (st.map fun v => v.category).sum ≤ 8) (h : ∀ q1, Gm l E cc nL own rt R en (K q1) (q1.2) (pc + 3) (lv) (st)) : Gm l E cc nL own rt R en (F.bind K) (w) (pc) (lv) (stk) := by
  intro q hq p e s m args below meth c H locs ls hC hP hD hS hl
  have hp : ∀ U : State, U.heap = H → s.WarmedH U.vm → Wk E w U := fun U hU hW => ⟨by rw [hU]; exact hP, va_K.moved hW.alike hC.2.2.2.2.2.2.2.2, hD, hC.2.2.2.2.2.1.warm hW⟩
  have tb : ∀ {z : Cond}, z ∈ lw_tbl → goodWord z = true → z.before args s = true := fun h1 h2 => hC.2.2.2.2.1 _ (gw_in h1 h2)
  obtain ⟨q1, hq1, hq2⟩ := Option.bind_eq_some_iff.mp hq
  have hM := hM q1 hq1
  have hrun := va_runSN (locs := locs) (below := below) (meth := meth) (e := e) (l := l) (cells := 0) (slots := 0) (As := As) (rest := st) (g := F0 m pc ls stk) (Ts := .code y cc' n' ret' :: gwl) ⟨hC.1, hC.2.1, hC.2.2.1, hC.2.2.2.1, fun z hz => (List.mem_cons.mp hz).elim (fun e => by rw [e]; exact tb hy.2.1 rfl) (hC.2.2.2.2.1 z)⟩ hM ⟨va_cnB np (Ts := .code y cc' n' ret' :: gwl) (fun z hz => (List.mem_cons.mp hz).elim (fun e => by rw [e]; exact tb hy.2.1 rfl) (hC.2.2.2.2.1 z)) (gw_good hy.2.1 rfl) rfl hro.1.1 hro.1.2 (hC.2.2.2.2.2.1 _ hlk rfl) (tb hy.2.2.1 rfl) hy.2.2.2 hro.2, tb hy.1 rfl, trivial⟩ ⟨Wk.blind, fun U hU hW => ⟨rfl, hp U hU hW⟩⟩ rfl hnp hl.1 hstk (lv_room hst) hd ⟨Nat.zero_le _, Nat.zero_le _⟩
  exact gm_back hS hrun (fun H1 locs1 hP1 hD1 hS1 => h q1 q hq2 p e s m args below meth c H1 locs1 ls hC hP1 hD1 hS1 hl)
theorem gm_callNk {v : Value} {y : MethodName} {cc' : ByteArray} {n' np idx : Nat} {ret' : Option FieldType} {rm : Room} {As stk : List Value} (hd : decode cc pc = .ok (.invokestatic idx, 3)) (hM : Mt l E y cc' n' ret' rm (As) w (some v) w) {host : String} (hy : CS y cc' n' ret' np) (hlk : Cond.methodLinkNest own idx y host ∈ lw_tbl) (hstk : stk = As.reverse ++ st) (hnp : As.length = np) (hro : Rm R rm n') (hst : (st.map fun v => v.category).sum ≤ 8) (h : Gm l E cc nL own rt R en (res) (w) (pc + 3) (lv) (v :: st)) : Gm l E cc nL own rt R en (res) (w) (pc) (lv) (stk) := by
  intro q hq p e s m args below meth c H locs ls hC hP hD hS hl
  have hp : ∀ U : State, U.heap = H → s.WarmedH U.vm → Wk E w U := fun U hU hW => ⟨by rw [hU]; exact hP, va_K.moved hW.alike hC.2.2.2.2.2.2.2.2, hD, hC.2.2.2.2.2.1.warm hW⟩
  have tb : ∀ {z : Cond}, z ∈ lw_tbl → goodWord z = true → z.before args s = true := fun h1 h2 => hC.2.2.2.2.1 _ (gw_in h1 h2)
  have hrun := va_runSN (locs := locs) (below := below) (meth := meth) (e := e) (l := l) (cells := 0) (slots := 0) (As := As) (rest := st) (g := F0 m pc ls stk) (Ts := .code y cc' n' ret' :: gwl) ⟨hC.1, hC.2.1, hC.2.2.1, hC.2.2.2.1, fun z hz => (List.mem_cons.mp hz).elim (fun e => by rw [e]; exact tb hy.2.1 rfl) (hC.2.2.2.2.1 z)⟩ hM ⟨va_cnB np (Ts := .code y cc' n' ret' :: gwl) (fun z hz => (List.mem_cons.mp hz).elim (fun e => by rw [e]; exact tb hy.2.1 rfl) (hC.2.2.2.2.1 z)) (gw_good hy.2.1 rfl) rfl hro.1.1 hro.1.2 (hC.2.2.2.2.2.1 _ hlk rfl) (tb hy.2.2.1 rfl) hy.2.2.2 hro.2, tb hy.1 rfl, trivial⟩ ⟨Wk.blind, fun U hU hW => ⟨rfl, hp U hU hW⟩⟩ rfl hnp hl.1 hstk (lv_room hst) hd ⟨Nat.zero_le _, Nat.zero_le _⟩
  exact gm_back hS hrun (fun H1 locs1 hP1 hD1 hS1 => h q hq p e s m args below meth c H1 locs1 ls hC hP1 hD1 hS1 hl)
theorem gm_callVr {g cl k : Nat} {F : Option (Nat × Wd)} {K : Nat × Wd → Option (α × Wd)} {y : MethodName} {cc' : ByteArray} {n' np idx : Nat} {ret' : Option FieldType} {rm : Room} {As stk : List Value} (hd : decode cc pc = .ok (.invokevirtual idx, 3)) (hM : ∀ q1, F = some q1 → Mt l E y cc' n' ret' rm (.ref (E.1 g cl) :: As) w (eR E k q1.1) q1.2) {ci N : Nat} {C : String} {T : u_T} {fs : (Nat → Int32) → List Value} (ho : OB E g cl ci fs) (hc : vwCl[ci]? = some (C, T, N)) (hy : CY y cc' n' ret' C np) (hlk : Cond.methodLink own idx y ∈ lw_tbl) (hstk : stk = As.reverse ++ .ref (E.1 g cl) :: st) (hnp : As.length = np) (hro : Rm R rm n') (hst : (st.map fun v => v.category).sum ≤ 8) (h : ∀ q1, Gm l E cc nL own rt R en (K q1) (q1.2) (pc + 3) (lv) (.ref (E.1 q1.1 k) :: st)) : Gm l E cc nL own rt R en (F.bind K) (w) (pc) (lv) (stk) := by
  intro q hq p e s m args below meth c H locs ls hC hP hD hS hl
  have hp : ∀ U : State, U.heap = H → s.WarmedH U.vm → Wk E w U := fun U hU hW => ⟨by rw [hU]; exact hP, va_K.moved hW.alike hC.2.2.2.2.2.2.2.2, hD, hC.2.2.2.2.2.1.warm hW⟩
  have tb : ∀ {z : Cond}, z ∈ lw_tbl → goodWord z = true → z.before args s = true := fun h1 h2 => hC.2.2.2.2.1 _ (gw_in h1 h2)
  obtain ⟨q1, hq1, hq2⟩ := Option.bind_eq_some_iff.mp hq
  have hM := hM q1 hq1
  obtain ⟨k0, hk0⟩ := List.getElem?_of_mem ho.1
  have he := wl_at (E := E) (w := w) hk0
  rw [ho.2] at he
  have hrun := va_runV (locs := locs) (below := below) (meth := meth) (e := e) (l := l) (cells := 0) (slots := 0) (As := As) (rest := st) (g := F0 m pc ls stk) (Ts := .code y cc' n' ret' :: gwl) ⟨hC.1, hC.2.1, hC.2.2.1, hC.2.2.2.1, fun z hz => (List.mem_cons.mp hz).elim (fun e => by rw [e]; exact tb hy.2.2.1 rfl) (hC.2.2.2.2.1 z)⟩ hM ⟨callB_of np (Ts := .code y cc' n' ret' :: gwl) (fun z hz => (List.mem_cons.mp hz).elim (fun e => by rw [e]; exact tb hy.2.2.1 rfl) (hC.2.2.2.2.1 z)) (gw_good hy.2.2.1 rfl) rfl hro.1.1 hro.1.2 (tb hy.2.2.2.1 rfl) (tb hlk rfl) hy.2.2.2.2 hro.2, tb hy.1 rfl, tb hy.2.1 rfl⟩ ⟨Wk.blind, va_recv hC.2.2.2.2.2.2.2.2 hP hc he, fun U hU hW => ⟨rfl, hp U hU hW⟩⟩ rfl hnp hl.1 hstk (lv_room hst) hd ⟨Nat.zero_le _, Nat.zero_le _⟩
  exact gm_back hS hrun (fun H1 locs1 hP1 hD1 hS1 => h q1 q hq2 p e s m args below meth c H1 locs1 ls hC hP1 hD1 hS1 hl)
end GM
