def modW (E : En) (d : Nat → Nat) : va_W := [((d 0), .inr (10, [.ref (d 1), .ref (d 2), .ref (d 3), .int 0, .ref (d 4), .int 0, .ref (d 5), .ref (d 6), .ref (d 7), .ref (d 8), .ref (d 9), .ref (d 10), .int 0, .ref (d 11), .ref (d 12), .int 0, .ref (d 13), .int 0, .ref (d 14), .int 0, .int 0, .int 0, .ref (d 15), .ref (d 16)])), ((d 1), .inl (E.2.2.1, 640, .inl (upd (fun _ => 0) (Int32.toNatClampNeg 3) 5))), ((d 2), .inl (E.2.2.1, 640, .inl (fun _ => 0))), ((d 3), .inl (E.2.2.1, 3200, .inl (fun _ => 0))), ((d 4), .inl (E.2.2.1, 14, .inl (fun _ => 0))), ((d 5), .inl (E.2.2.1, 8, .inl (fun _ => 0))), ((d 6), .inl (E.2.2.1, 8, .inl (fun _ => 0))), ((d 7), .inl (E.2.2.1, 320, .inl (fun _ => 0))), ((d 8), .inl (E.2.2.1, 8, .inl (fun _ => 0))), ((d 9), .inl (E.2.2.1, 8, .inl (fun _ => 0))), ((d 10), .inl (E.2.2.1, 8, .inl (fun _ => 0))), ((d 11), .inl (E.2.2.1, 30, .inl (fun _ => 0))), ((d 12), .inl (E.2.2.1, 30, .inl (fun _ => 0))), ((d 13), .inl (E.2.2.1, 8, .inl (fun _ => 0))), ((d 14), .inl (E.2.2.1, 80, .inl (fun _ => 0))), ((d 15), .inl (E.2.2.1, 80, .inl (fun _ => 0))), ((d 16), .inl (E.2.2.1, 400, .inl (fun _ => 0)))]
def E1 (E : En) (b : Nat → Nat → Nat) (d : Nat → Nat) : En := (fun g c => if g = 8 then d c else b g c, E.2)
set_option maxHeartbeats 4000000 in
set_option maxRecDepth 100000 in
theorem wl_0 (E : En) (b : Nat → Nat → Nat) (d : Nat → Nat) : wl (E1 E b d) w0 = routW E b (fun j => some ((E1 E b d).1 (2 + j) 0)) ++ modW E d := rfl
theorem rout_f {D : va_G} {E : En} {b : Nat → Nat → Nat} {f f' : Nat → Option Nat} {H : Heap} (h : va_P D vwCl (routW E b f) H) (hf : ∀ j, j < 5 → f j = f' j) : va_P D vwCl (routW E b f') H := by
  have hq : va_at D vwCl (b 7 2, .inl (E.2.2.2.2, 5, .inr (.inr (.inr (.inr f))))) H := h 128 _ rfl
  have hq' := cell_q hq hf
  intro k q hk
  by_cases hk2 : k = 128
  · subst hk2
    cases hk
    exact hq'
  · refine h k q ?_
    rw [← hk]
    have e : routW E b f' = (routW E b f).set 128 (b 7 2, .inl (E.2.2.2.2, 5, .inr (.inr (.inr (.inr f'))))) := rfl
    rw [e, List.getElem?_set_ne (Ne.symm hk2)]
theorem rout_adr (E : En) (b : Nat → Nat → Nat) (f f' : Nat → Option Nat) (v : va_W) : (routW E b f' ++ v).map Prod.fst = (routW E b f ++ v).map Prod.fst := by
  rw [List.map_append, List.map_append]
  rfl
set_option maxHeartbeats 4000000 in
set_option maxRecDepth 100000 in
theorem whole_start {p : Program} {e : Env} {s : State} {m : MethodId} {below : List Frame} {meth : Method} {c : Code} (l : Launch) (hflags : l.flags = flags0) {b L : Nat} {xs : Nat → Int32} (hL : L ≤ 3072) (C0 : lw_At p s m meth c b L xs) : W p l e room_1 s m #[Value.ref b] below meth c s.heap [] 0 0 (lw_Z below #[Value.ref b] s) (entryFrame m ([Value.ref b] : List Value).toArray 4) := by
  obtain ⟨hx, hb, hr, hml, hown, hts, hX, hbl, hlocks, hgv⟩ := id C0
  have hA : ∀ q : Nat, s.heap.size ≤ q → (fun q : Nat => s.heap.size ≤ q) q := fun _ h => h
  obtain ⟨c0, i0, hk0⟩ := u_known (C := RX0) (T := TX0) (N := 5) (n := 5) hts (fun w h => (List.mem_filter.mp (inX0 w h)).1) (hts _ tb_131)
  obtain ⟨c1, i1, hk1⟩ := u_known (C := RX1) (T := TX1) (N := 4) (n := 4) hts (fun w h => (List.mem_filter.mp (inX1 w h)).1) (hts _ tb_279)
  obtain ⟨c2, i2, hk2⟩ := u_known (C := RX2) (T := TX2) (N := 3) (n := 3) hts (fun w h => (List.mem_filter.mp (inX2 w h)).1) (hts _ tb_181)
  obtain ⟨c3, i3, hk3⟩ := u_known (C := RX3) (T := TX3) (N := 6) (n := 6) hts (fun w h => (List.mem_filter.mp (inX3 w h)).1) (hts _ tb_238)
  obtain ⟨c4, i4, hk4⟩ := u_known (C := RX4) (T := TX4) (N := 9) (n := 9) hts (fun w h => (List.mem_filter.mp (inX4 w h)).1) (hts _ tb_80)
  obtain ⟨c5, i5, hk5⟩ := u_known (C := RX5) (T := TX5) (N := 3) (n := 3) hts (fun w h => (List.mem_filter.mp (inX5 w h)).1) (hts _ tb_115)
  obtain ⟨c6, i6, hk6⟩ := u_known (C := RX6) (T := TX6) (N := 7) (n := 7) hts (fun w h => (List.mem_filter.mp (inX6 w h)).1) (hts _ tb_86)
  obtain ⟨c7, i7, hk7⟩ := u_known (C := RX7) (T := TX7) (N := 10) (n := 10) hts (fun w h => (List.mem_filter.mp (inX7 w h)).1) (hts _ tb_200)
  obtain ⟨c8, i8, hk8⟩ := u_known (C := RX8) (T := TX8) (N := 3) (n := 3) hts (fun w h => (List.mem_filter.mp (inX8 w h)).1) (hts _ tb_244)
  obtain ⟨c9, i9, hk9⟩ := u_known (C := RX9) (T := TX9) (N := 6) (n := 6) hts (fun w h => (List.mem_filter.mp (inX9 w h)).1) (hts _ tb_72)
  obtain ⟨c10, i10, hk10⟩ := u_known (C := RX10) (T := TX10) (N := 24) (n := 24) hts (fun w h => (List.mem_filter.mp (inX10 w h)).1) (hts _ tb_939)
  obtain ⟨cI, kI, pI, fI, gI, hI⟩ := Cond.arrayClass_spec (hts _ tb_113)
  obtain ⟨cC, kC, pC, fC, gC, hC⟩ := Cond.arrayClass_spec (hts _ tb_236)
  obtain ⟨pN, cN, kN, fN, dN, gN, hN, eN⟩ := Cond.arrayOver_spec (hts _ tb_187)
  have hNW : NWs s := fun w hw hn => va_Nw.of (isNest_on hn) (hts w hw)
  have hAO : va_AO RX4 s := va_AO.of (hts _ tb_187)
  obtain ⟨E, hK⟩ : ∃ E : En, va_K E.2.1 vwCl (tyl E) s := by
    refine ⟨(fun _ _ => 0, (fun k => match k with | 0 => c0 | 1 => c1 | 2 => c2 | 3 => c3 | 4 => c4 | 5 => c5 | 6 => c6 | 7 => c7 | 8 => c8 | 9 => c9 | _ => c10, fun k => match k with | 0 => i0 | 1 => i1 | 2 => i2 | 3 => i3 | 4 => i4 | 5 => i5 | 6 => i6 | 7 => i7 | 8 => i8 | 9 => i9 | _ => i10), cI, cC, cN), fun k q hq => ?_, fun k q hq => ?_⟩
    · match k, hq with
      | 0, hq => cases hq; exact hk0
      | 1, hq => cases hq; exact hk1
      | 2, hq => cases hq; exact hk2
      | 3, hq => cases hq; exact hk3
      | 4, hq => cases hq; exact hk4
      | 5, hq => cases hq; exact hk5
      | 6, hq => cases hq; exact hk6
      | 7, hq => cases hq; exact hk7
      | 8, hq => cases hq; exact hk8
      | 9, hq => cases hq; exact hk9
      | 10, hq => cases hq; exact hk10
      | k + 11, hq => cases hq
    · match k, hq with
      | 0, hq => cases hq; exact ⟨fun n z => ⟨fun k h => (by cases h), kI, gI, pI, hI⟩, fI⟩
      | 1, hq => cases hq; exact ⟨fun n z => ⟨fun k h => (by cases h), kC, gC, pC, hC⟩, fC⟩
      | 2, hq => cases hq; exact ⟨fun n z => ⟨fun k h => (by cases h), kN, gN, pN, hN⟩, kN, pN, gN, hN, fN, eN⟩
      | k + 3, hq => cases hq
  have hS : va_S (fun q : Nat => s.heap.size ≤ q) s.heap s.heap [] := va_S.rf
  have hP : va_P E.2.1 vwCl [] s.heap := fun k q h => by simp at h
  have hD : va_D (fun q : Nat => s.heap.size ≤ q) [] := ⟨fun i j p q h => by simp at h, fun k q h => by simp at h⟩
  have hl := lv_entry ([.ref b]) (n := 4) (Nat.le_of_ble_eq_true rfl)
  rw [lg_entry_eq]
  generalize (lg_sl ([.ref b]) ++ List.replicate (4 - (lg_sl ([.ref b])).length) Slot.unset).toArray = ls at hl ⊢
  have hl : lv_has ls 4 [(0, .ref b)] := hl
  have gws : ∀ (y : MethodName) (cc' : ByteArray) (n' : Nat), Cond.code y cc' n' none ∈ lw_tbl → ∀ z ∈ (Cond.code y cc' n' none :: gwl), z.before #[Value.ref b] s = true := fun y cc' n' hy z hz => (List.mem_cons.mp hz).elim (fun e => by rw [e]; exact hts _ hy) (fun h => hts _ (List.mem_filter.mp h).1)
  refine va_new (ci := 9) (fs := [.null, .null, .null, .null, .null, .null]) (C := RX9) (T := TX9) (N := 6) hx hb hts (fun w h => (List.mem_filter.mp (inX9 w h)).1) tyX9 tyX9_ok hown (hts _ tb_71) (hts _ tb_72) (hts _ tb_57) hK hP hD hS hA rfl (fun j hj => by rcases (show j = 0 ∨ j = 1 ∨ j = 2 ∨ j = 3 ∨ j = 4 ∨ j = 5 by omega) with rfl | rfl | rfl | rfl | rfl | rfl <;> rfl) (Nat.le_of_ble_eq_true rfl) (Nat.le_of_ble_eq_true rfl) dL_law_0 (fun q9 H hP hD hS => ?_)
  have hP : va_P E.2.1 vwCl ((q9, .inr (9, [.null, .null, .null, .null, .null, .null])) :: []) H := hP
  have hD : va_D (fun q : Nat => s.heap.size ≤ q) ((q9, .inr (9, [.null, .null, .null, .null, .null, .null])) :: []) := hD
  refine lv_dup hx hb dL_law_3 rfl ?_
  refine gk_back (E := E) (st := [.ref q9]) hA hP hD hS (va_runI (As := []) (rest := [.ref q9]) (g := F0 m 4 ls [.ref q9, .ref q9]) (Ts := .code yX9_init cX9_init 1 none :: gwl) (own := RL) ⟨hx, hb, hml, hown, gws _ _ _ tb_75⟩ (n_X9 q9 H.size) ⟨callB_of 0 (Ts := .code yX9_init cX9_init 1 none :: gwl) (gws _ _ _ tb_75) (gw_good tb_75 rfl) rfl rfl rfl (hts _ tb_57) (hts _ tb_73) ci_X9.2.2.2.1 ⟨(Nat.le_of_ble_eq_true rfl), (Nat.le_of_ble_eq_true rfl)⟩, rfl, hts _ tb_74⟩ ⟨Wk0.blind, fun U hU hW => ⟨rfl, by rw [hU], by rw [hU]; exact hP, va_K.moved hW.alike hK, hNW.warm hW, va_AO.moved hW.alike hAO⟩⟩ rfl rfl hl.1 rfl (lv_room (Nat.le_of_ble_eq_true rfl)) dL_law_4 ⟨(Nat.le_of_ble_eq_true rfl), (Nat.le_of_ble_eq_true rfl)⟩) (fun H1 locs1 w1 hp hP1 hD1 hS1 => ?_)
  obtain ⟨ba, fa, hq9, hfa, rfl⟩ := hp
  subst hq9
  rw [List.append_nil] at hP1 hD1
  refine lv_astore_n (lv' := [(1, .ref (ba 7 0)), (0, .ref b)]) hx hb dL_law_7 rfl hl (by decide) rfl (fun ls hl => ?_)
  refine va_new (ci := 10) (fs := [.null, .null, .null, .int 0, .null, .int 0, .null, .null, .null, .null, .null, .null, .int 0, .null, .null, .int 0, .null, .int 0, .null, .int 0, .int 0, .int 0, .null, .null]) (C := RX10) (T := TX10) (N := 24) hx hb hts (fun w h => (List.mem_filter.mp (inX10 w h)).1) tyX10 tyX10_ok hown (hts _ tb_938) (hts _ tb_939) (hts _ tb_67) hK hP1 hD1 hS1 hA rfl (fun j hj => by rcases (show j = 0 ∨ j = 1 ∨ j = 2 ∨ j = 3 ∨ j = 4 ∨ j = 5 ∨ j = 6 ∨ j = 7 ∨ j = 8 ∨ j = 9 ∨ j = 10 ∨ j = 11 ∨ j = 12 ∨ j = 13 ∨ j = 14 ∨ j = 15 ∨ j = 16 ∨ j = 17 ∨ j = 18 ∨ j = 19 ∨ j = 20 ∨ j = 21 ∨ j = 22 ∨ j = 23 by omega) with rfl | rfl | rfl | rfl | rfl | rfl | rfl | rfl | rfl | rfl | rfl | rfl | rfl | rfl | rfl | rfl | rfl | rfl | rfl | rfl | rfl | rfl | rfl | rfl <;> rfl) (Nat.le_of_ble_eq_true rfl) (Nat.le_of_ble_eq_true rfl) dL_law_8 (fun q8 H2 hP2 hD2 hS2 => ?_)
  have hP3 : va_P E.2.1 vwCl ((q8, .inr (10, [.null, .null, .null, .int 0, .null, .int 0, .null, .null, .null, .null, .null, .null, .int 0, .null, .null, .int 0, .null, .int 0, .null, .int 0, .int 0, .int 0, .null, .null])) :: routW E ba fa) H2 := va_P_comm hP2
  have hD3 : va_D (fun q : Nat => s.heap.size ≤ q) ((q8, .inr (10, [.null, .null, .null, .int 0, .null, .int 0, .null, .null, .null, .null, .null, .null, .int 0, .null, .null, .int 0, .null, .int 0, .null, .int 0, .int 0, .int 0, .null, .null])) :: routW E ba fa) := va_D_comm hD2
  refine lv_dup hx hb dL_law_11 rfl ?_
  refine gk_back (E := E) (st := [.ref q8]) hA hP3 hD3 hS2 (va_runI (As := []) (rest := [.ref q8]) (g := F0 m 12 ls [.ref q8, .ref q8]) (Ts := .code yX10_init cX10_init 1 none :: gwl) (own := RL) ⟨hx, hb, hml, hown, gws _ _ _ tb_942⟩ (n_X10 q8 H2.size) ⟨callB_of 0 (Ts := .code yX10_init cX10_init 1 none :: gwl) (gws _ _ _ tb_942) (gw_good tb_942 rfl) rfl rfl rfl (hts _ tb_67) (hts _ tb_940) ci_X10.2.2.2.1 ⟨(Nat.le_of_ble_eq_true rfl), (Nat.le_of_ble_eq_true rfl)⟩, rfl, hts _ tb_941⟩ ⟨Wk0.blind, fun U hU hW => ⟨rfl, by rw [hU], by rw [hU]; exact va_P_mem hP3 (fun q hq => by rw [List.mem_singleton.mp hq]; exact List.mem_cons_self), va_K.moved hW.alike hK, hNW.warm hW, va_AO.moved hW.alike hAO⟩⟩ rfl rfl hl.1 rfl (lv_room (Nat.le_of_ble_eq_true rfl)) dL_law_12 ⟨(Nat.le_of_ble_eq_true rfl), (Nat.le_of_ble_eq_true rfl)⟩) (fun H5 locs5 w1 hp hP5 hD5 hS5 => ?_)
  obtain ⟨d, hd0, rfl⟩ : ∃ d : Nat → Nat, d 0 = q8 ∧ w1 = modW E d := by
    obtain ⟨x1, x2, x3, x4, x5, x6, x7, x8, x9, x10, x11, x12, x13, x14, x15, x16, rfl⟩ := hp
    exact ⟨fun c => match c with | 0 => q8 | 1 => x1 | 2 => x2 | 3 => x3 | 4 => x4 | 5 => x5 | 6 => x6 | 7 => x7 | 8 => x8 | 9 => x9 | 10 => x10 | 11 => x11 | 12 => x12 | 13 => x13 | 14 => x14 | 15 => x15 | _ => x16, rfl, rfl⟩
  subst hd0
  refine lv_astore_n (lv' := [(2, .ref (d 0)), (1, .ref (ba 7 0)), (0, .ref b)]) hx hb dL_law_15 rfl hl (by decide) rfl (fun ls hl => ?_)
  refine lv_iconst (v := 0) hx hb dL_law_16 (by decide) ?_
  refine lv_istore_n (lv' := [(3, .int 0), (2, .ref (d 0)), (1, .ref (ba 7 0)), (0, .ref b)]) hx hb dL_law_17 rfl hl (by decide) rfl (fun ls hl => ?_)
  have hP6 := va_P_comm hP5
  have hD6 := va_D_comm hD5
  have hf' : ∀ j, j < 5 → fa j = (fun j => some ((E1 E ba d).1 (2 + j) 0)) j := fun j hj => by
    rw [hfa j hj]
    show _ = some (if 2 + j = 8 then d 0 else ba (2 + j) 0)
    rw [if_neg (by omega)]
  have hP7 : va_P (E1 E ba d).2.1 vwCl (wl (E1 E ba d) w0) H5 := by
    rw [wl_0]
    exact va_P.app (rout_f (va_P_mem hP6 (fun q hq => List.mem_append_left _ hq)) hf') (va_P_mem hP6 (fun q hq => List.mem_append_right _ hq))
  have hD7 : va_D (fun q : Nat => s.heap.size ≤ q) (wl (E1 E ba d) w0) := by
    rw [wl_0]
    exact va_D_adr hD6 (rout_adr E ba fa _ (modW E d))
  have hAA : ∀ q, AA (E1 E ba d) q → s.heap.size ≤ q := by
    rintro q ⟨z, hz, rfl⟩
    obtain ⟨k, hk⟩ := List.getElem?_of_mem hz
    exact hD7.2 k _ (wl_at (E := E1 E ba d) (w := w0) hk)
  have hD8 : va_D (AA (E1 E ba d)) (wl (E1 E ba d) w0) := hD7.weaken (fun k q hk _ => by
    obtain ⟨z, hz, e⟩ := List.mem_map.mp (List.mem_of_getElem? hk)
    exact ⟨z, hz, by rw [← e]⟩)
  have CC : Lc (E1 E ba d) p s m meth c b L xs := ⟨C0, hK, hNW, hAA⟩
  refine W.widen (k := 600000) (n := 7302250) (Nat.le_of_ble_eq_true rfl) (Nat.le_of_ble_eq_true rfl) ?_
  exact law_loop hL CC (L + 6) 0 0 w0 (by omega) (by omega) (by omega) Inv_0 H5 locs5 ls hP7 hD8 hS5 (has_lh (lv_sub hl [3, 2, 1, 0] rfl))
