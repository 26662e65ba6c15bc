theorem oq_addSwitch {t : Nat} {w : Wd} (H : Inv t w) (ht : t + 1 ≤ 600) : ∃ r w1 w2, f_X9_addSwitch w  = some (r, w1) ∧ f_X10_addSwitch w1  = some (r, w2) ∧ Inv (t + 1) w2 := by
  obtain ⟨r, w1, w2, h1, h2, h3⟩ := op_addSwitch H 
  exact ⟨r, w1, w2, h1, h2, h3.mono (Nat.le_succ t) ht⟩
theorem oq_setLookup {t : Nat} {w : Wd} (H : Inv t w) (ht : t + 1 ≤ 600) (x1 x2 : Int32) : ∃ r w1 w2, f_X9_setLookup w x1 x2 = some (r, w1) ∧ f_X10_setLookup w1 x1 x2 = some (r, w2) ∧ Inv (t + 1) w2 := by
  obtain ⟨r, w1, w2, h1, h2, h3⟩ := op_setLookup H x1 x2
  exact ⟨r, w1, w2, h1, h2, h3.mono (Nat.le_succ t) ht⟩
theorem oq_setCodes {t : Nat} {w : Wd} (H : Inv t w) (ht : t + 1 ≤ 600) (x1 x2 : Int32) : ∃ r w1 w2, f_X9_setCodes w x1 x2 = some (r, w1) ∧ f_X10_setCodes w1 x1 x2 = some (r, w2) ∧ Inv (t + 1) w2 := by
  obtain ⟨r, w1, w2, h1, h2, h3⟩ := op_setCodes H x1 x2
  exact ⟨r, w1, w2, h1, h2, h3.mono (Nat.le_succ t) ht⟩
theorem oq_setLimit {t : Nat} {w : Wd} (H : Inv t w) (ht : t + 1 ≤ 600) (x1 : Int32) : ∃ r w1 w2, f_X9_setLimit w x1 = some (r, w1) ∧ f_X10_setLimit w1 x1 = some (r, w2) ∧ Inv (t + 1) w2 := by
  obtain ⟨r, w1, w2, h1, h2, h3⟩ := op_setLimit H x1
  exact ⟨r, w1, w2, h1, h2, h3.mono (Nat.le_succ t) ht⟩
theorem oq_addRoute {t : Nat} {w : Wd} (H : Inv t w) (ht : t + 1 ≤ 600) (x1 x2 x3 x4 x5 : Int32) : ∃ r w1 w2, f_X9_addRoute w x1 x2 x3 x4 x5 = some (r, w1) ∧ f_X10_addRoute w1 x1 x2 x3 x4 x5 = some (r, w2) ∧ Inv (t + 1) w2 := by
  obtain ⟨r, w1, w2, h1, h2, h3⟩ := op_addRoute H x1 x2 x3 x4 x5
  exact ⟨r, w1, w2, h1, h2, h3.mono (Nat.le_succ t) ht⟩
theorem oq_setCost {t : Nat} {w : Wd} (H : Inv t w) (ht : t + 1 ≤ 600) (x1 x2 x3 : Int32) : ∃ r w1 w2, f_X9_setCost w x1 x2 x3 = some (r, w1) ∧ f_X10_setCost w1 x1 x2 x3 = some (r, w2) ∧ Inv (t + 1) w2 := by
  obtain ⟨r, w1, w2, h1, h2, h3⟩ := op_setCost H x1 x2 x3
  exact ⟨r, w1, w2, h1, h2, h3.mono (Nat.le_succ t) ht⟩
theorem oq_port {t : Nat} {w : Wd} (H : Inv t w) (ht : t + 1 ≤ 600) (x1 x2 : Int32) : ∃ r w1 w2, f_X9_port w x1 x2 = some (r, w1) ∧ f_X10_port w1 x1 x2 = some (r, w2) ∧ Inv (t + 1) w2 := by
  obtain ⟨r, w1, w2, h1, h2, h3⟩ := op_port H x1 x2
  exact ⟨r, w1, w2, h1, h2, h3.mono (Nat.le_succ t) ht⟩
theorem oq_unport {t : Nat} {w : Wd} (H : Inv t w) (ht : t + 1 ≤ 600) (x1 : Int32) : ∃ r w1 w2, f_X9_unport w x1 = some (r, w1) ∧ f_X10_unport w1 x1 = some (r, w2) ∧ Inv (t + 1) w2 := by
  obtain ⟨r, w1, w2, h1, h2, h3⟩ := op_unport H x1
  exact ⟨r, w1, w2, h1, h2, h3.mono (Nat.le_succ t) ht⟩
theorem oq_call {t : Nat} {w : Wd} (H : Inv t w) (ht : t + 1 ≤ 600) (x1 x2 : Int32) : ∃ r w1 w2, f_X9_call w x1 x2 = some (r, w1) ∧ f_X10_call w1 x1 x2 = some (r, w2) ∧ Inv (t + 1) w2 := by
  obtain ⟨r, w1, w2, h1, h2, h3⟩ := op_call H x1 x2
  exact ⟨r, w1, w2, h1, h2, h3.mono (Nat.le_succ t) ht⟩
theorem oq_end {t : Nat} {w : Wd} (H : Inv t w) (ht : t + 1 ≤ 600) (x1 : Int32) : ∃ r w1 w2, f_X9_end w x1 = some (r, w1) ∧ f_X10_end w1 x1 = some (r, w2) ∧ Inv (t + 1) w2 := op_end H ht x1
theorem oq_pass {t : Nat} {w : Wd} (H : Inv t w) (ht : t + 1 ≤ 600) (x1 : Int32) : ∃ r w1 w2, f_X9_pass w x1 = some (r, w1) ∧ f_X10_pass w1 x1 = some (r, w2) ∧ Inv (t + 1) w2 := by
  obtain ⟨r, w1, w2, h1, h2, h3⟩ := op_pass H x1
  exact ⟨r, w1, w2, h1, h2, h3.mono (Nat.le_succ t) ht⟩
theorem oq_time {t : Nat} {w : Wd} (H : Inv t w) (ht : t + 1 ≤ 600) : ∃ r w1 w2, f_X9_time w  = some (r, w1) ∧ f_X10_time w1  = some (r, w2) ∧ Inv (t + 1) w2 := ⟨_, _, _, fp_X9_time w, op_time H, H.mono (Nat.le_succ t) ht⟩
theorem oq_band {t : Nat} {w : Wd} (H : Inv t w) (ht : t + 1 ≤ 600) : ∃ r w1 w2, f_X9_band w  = some (r, w1) ∧ f_X10_band w1  = some (r, w2) ∧ Inv (t + 1) w2 := by
  obtain ⟨r, h1, h2⟩ := op_band H 
  exact ⟨r, w, w, h1, h2, H.mono (Nat.le_succ t) ht⟩
theorem oq_route {t : Nat} {w : Wd} (H : Inv t w) (ht : t + 1 ≤ 600) (x1 x2 : Int32) : ∃ r w1 w2, f_X9_route w x1 x2 = some (r, w1) ∧ f_X10_route w1 x1 x2 = some (r, w2) ∧ Inv (t + 1) w2 := by
  obtain ⟨r, h1, h2⟩ := op_route H x1 x2
  exact ⟨r, w, w, h1, h2, H.mono (Nat.le_succ t) ht⟩
theorem oq_choice {t : Nat} {w : Wd} (H : Inv t w) (ht : t + 1 ≤ 600) (x1 x2 x3 : Int32) : ∃ r w1 w2, f_X9_choice w x1 x2 x3 = some (r, w1) ∧ f_X10_choice w1 x1 x2 x3 = some (r, w2) ∧ Inv (t + 1) w2 := by
  obtain ⟨r, w2, h1, h2, h3⟩ := op_choice H x1 x2 x3
  exact ⟨r, w, w2, h1, h2, h3.mono (Nat.le_succ t) ht⟩
theorem oq_calls {t : Nat} {w : Wd} (H : Inv t w) (ht : t + 1 ≤ 600) : ∃ r w1 w2, f_X9_calls w  = some (r, w1) ∧ f_X10_calls w1  = some (r, w2) ∧ Inv (t + 1) w2 := ⟨_, _, _, fp_X9_calls w, op_calls H, H.mono (Nat.le_succ t) ht⟩
theorem oq_way {t : Nat} {w : Wd} (H : Inv t w) (ht : t + 1 ≤ 600) (x1 x2 : Int32) : ∃ r w1 w2, f_X9_way w x1 x2 = some (r, w1) ∧ f_X10_way w1 x1 x2 = some (r, w2) ∧ Inv (t + 1) w2 := by
  obtain ⟨r, h1, h2⟩ := op_way H x1 x2
  exact ⟨r, w, w, h1, h2, H.mono (Nat.le_succ t) ht⟩
theorem oq_called {t : Nat} {w : Wd} (H : Inv t w) (ht : t + 1 ≤ 600) (x1 : Int32) : ∃ r w1 w2, f_X9_called w x1 = some (r, w1) ∧ f_X10_called w1 x1 = some (r, w2) ∧ Inv (t + 1) w2 := by
  obtain ⟨r, h1, h2⟩ := op_called H x1
  exact ⟨r, w, w, h1, h2, H.mono (Nat.le_succ t) ht⟩
theorem oq_owes {t : Nat} {w : Wd} (H : Inv t w) (ht : t + 1 ≤ 600) (x1 x2 : Int32) : ∃ r w1 w2, f_X9_owes w x1 x2 = some (r, w1) ∧ f_X10_owes w1 x1 x2 = some (r, w2) ∧ Inv (t + 1) w2 := by
  obtain ⟨r, h1, h2⟩ := op_owes H x1 x2
  exact ⟨r, w, w, h1, h2, H.mono (Nat.le_succ t) ht⟩
theorem oq_attempts {t : Nat} {w : Wd} (H : Inv t w) (ht : t + 1 ≤ 600) : ∃ r w1 w2, f_X9_attempts w  = some (r, w1) ∧ f_X10_attempts w1  = some (r, w2) ∧ Inv (t + 1) w2 := ⟨_, _, _, fp_X9_attempts w, (fp_X10_attempts w).trans (by rw [op_attempts H]), H.mono (Nat.le_succ t) ht⟩
theorem oq_attempt {t : Nat} {w : Wd} (H : Inv t w) (ht : t + 1 ≤ 600) (x1 x2 : Int32) : ∃ r w1 w2, f_X9_attempt w x1 x2 = some (r, w1) ∧ f_X10_attempt w1 x1 x2 = some (r, w2) ∧ Inv (t + 1) w2 := by
  obtain ⟨r, h1, h2⟩ := op_attempt H x1 x2
  exact ⟨r, w, w, h1, h2, H.mono (Nat.le_succ t) ht⟩
theorem oq_cheapest {t : Nat} {w : Wd} (H : Inv t w) (ht : t + 1 ≤ 600) (x1 x2 : Int32) : ∃ r w1 w2, f_X9_cheapest w x1 x2 = some (r, w1) ∧ f_X10_cheapest w1 x1 x2 = some (r, w2) ∧ Inv (t + 1) w2 := by
  obtain ⟨r, w1, w2, h1, h2, h3⟩ := op_cheapest H x1 x2
  exact ⟨r, w1, w2, h1, h2, h3.mono (Nat.le_succ t) ht⟩
theorem oq_type {t : Nat} {w : Wd} (H : Inv t w) (ht : t + 1 ≤ 600) (x1 : Int32) : ∃ r w1 w2, f_X9_type w x1 = some (r, w1) ∧ f_X10_type w1 x1 = some (r, w2) ∧ Inv (t + 1) w2 := by
  obtain ⟨r, w1, w2, h1, h2, h3⟩ := op_type H x1
  exact ⟨r, w1, w2, h1, h2, h3.mono (Nat.le_succ t) ht⟩
theorem oq_clear {t : Nat} {w : Wd} (H : Inv t w) (ht : t + 1 ≤ 600) : ∃ r w1 w2, f_X9_clear w  = some (r, w1) ∧ f_X10_clear w1  = some (r, w2) ∧ Inv (t + 1) w2 := by
  obtain ⟨r, w1, w2, h1, h2, h3⟩ := op_clear H 
  exact ⟨r, w1, w2, h1, h2, h3.mono (Nat.le_succ t) ht⟩
theorem oq_run {t : Nat} {w : Wd} (H : Inv t w) (ht : t + 1 ≤ 600) : ∃ r w1 w2, f_X9_run w  = some (r, w1) ∧ f_X10_run w1  = some (r, w2) ∧ Inv (t + 1) w2 := by
  obtain ⟨r, w1, w2, h1, h2, h3⟩ := op_run H 
  exact ⟨r, w1, w2, h1, h2, h3.mono (Nat.le_succ t) ht⟩
theorem oq_undo {t : Nat} {w : Wd} (H : Inv t w) (ht : t + 1 ≤ 600) : ∃ r w1 w2, f_X9_undo w  = some (r, w1) ∧ f_X10_undo w1  = some (r, w2) ∧ Inv (t + 1) w2 := by
  obtain ⟨r, w1, w2, h1, h2, h3⟩ := op_undo H 
  exact ⟨r, w1, w2, h1, h2, h3.mono (Nat.le_succ t) ht⟩
theorem oq_fingerprint {t : Nat} {w : Wd} (H : Inv t w) (ht : t + 1 ≤ 600) : ∃ r w1 w2, f_X9_fingerprint w  = some (r, w1) ∧ f_X10_fingerprint w1  = some (r, w2) ∧ Inv (t + 1) w2 := by
  obtain ⟨r, h1, h2⟩ := op_fingerprint H 
  exact ⟨r, w, w, h1, h2, H.mono (Nat.le_succ t) ht⟩
set_option maxHeartbeats 1000000 in
theorem lc_0 {p : Program} {l : Launch} {e : Env} {s : State} {m : MethodId} {below : List Frame} {meth : Method} {c : Code} {b L : Nat} {xs : Nat → Int32} {E : En} {w : Wd}  {t i0 : Nat} (C0 : Lc E p s m meth c b L xs) (hin : ∀ k, k ≤ 5 → vp_in (nI i0 + nI k) L) (H : Inv t w) (ht : t + 1 ≤ 600) (h : ∀ w2, Inv (t + 1) w2 → Lw p l e s m below meth c b E w2 874 [some (.ref b), some (.ref (E.1 7 0)), some (.ref (E.1 8 0)), some (.int (nI i0))] []) : Lw p l e s m below meth c b E w 156 [some (.ref b), some (.ref (E.1 7 0)), some (.ref (E.1 8 0)), some (.int (nI i0))] [] := by
  obtain ⟨r, w1, w2, h1, h2, h3⟩ := oq_addSwitch H ht 
  refine lq_aload_n C0 dL_law_156 rfl rfl ?_
  refine lq_call (As := []) C0 dL_law_157 (t_X9_addSwitch w  _ h1) ce_7_0 rfl cy_X9_addSwitch tb_317 rfl rfl ⟨⟨rfl, rfl⟩, (Nat.le_of_ble_eq_true rfl), (Nat.le_of_ble_eq_true rfl)⟩ (Nat.le_of_ble_eq_true rfl) ?_
  refine lq_aload_n C0 dL_law_160 rfl rfl ?_
  refine lq_call (As := []) C0 dL_law_161 (t_X10_addSwitch w1  _ h2) ce_8_0 rfl cy_X10_addSwitch tb_1017 rfl rfl ⟨⟨rfl, rfl⟩, (Nat.le_of_ble_eq_true rfl), (Nat.le_of_ble_eq_true rfl)⟩ (Nat.le_of_ble_eq_true rfl) ?_
  exact lq_eq_T (tgt := 874) C0 dL_law_164 (by decide) rfl (h w2 h3)
set_option maxHeartbeats 1000000 in
theorem lc_1 {p : Program} {l : Launch} {e : Env} {s : State} {m : MethodId} {below : List Frame} {meth : Method} {c : Code} {b L : Nat} {xs : Nat → Int32} {E : En} {w : Wd}  {t i0 : Nat} (C0 : Lc E p s m meth c b L xs) (hin : ∀ k, k ≤ 5 → vp_in (nI i0 + nI k) L) (H : Inv t w) (ht : t + 1 ≤ 600) (h : ∀ w2, Inv (t + 1) w2 → Lw p l e s m below meth c b E w2 874 [some (.ref b), some (.ref (E.1 7 0)), some (.ref (E.1 8 0)), some (.int (nI i0))] []) : Lw p l e s m below meth c b E w 169 [some (.ref b), some (.ref (E.1 7 0)), some (.ref (E.1 8 0)), some (.int (nI i0))] [] := by
  by_cases hx : (xs (Int32.toNatClampNeg (nI i0 + 2))) = 0
  · obtain ⟨r, w1, w2, h1, h2, h3⟩ := oq_setLookup H ht (xs (Int32.toNatClampNeg (nI i0 + 1))) 0
    refine lq_aload_n C0 dL_law_169 rfl rfl ?_
    refine lq_aload_n C0 dL_law_170 rfl rfl ?_
    refine lq_iload_n C0 dL_law_171 rfl rfl ?_
    refine lq_iconst (v := 1) C0 dL_law_172 (by decide) ?_
    refine lq_iadd C0 dL_law_173 ?_
    refine lq_sld C0 dL_law_174 (hin 1 (by omega)) ?_
    refine lq_aload_n C0 dL_law_175 rfl rfl ?_
    refine lq_iload_n C0 dL_law_176 rfl rfl ?_
    refine lq_iconst (v := 2) C0 dL_law_177 (by decide) ?_
    refine lq_iadd C0 dL_law_178 ?_
    refine lq_sld C0 dL_law_179 (hin 2 (by omega)) ?_
    refine lq_if0_T (tgt := 187) C0 dL_law_180 (by decide) hx ?_
    refine lq_iconst (v := 0) C0 dL_law_187 (by decide) ?_
    refine lq_call (As := [.int (xs (Int32.toNatClampNeg (nI i0 + 1))), .int 0]) C0 dL_law_188 (t_X9_setLookup w (xs (Int32.toNatClampNeg (nI i0 + 1))) 0 _ h1) ce_7_0 rfl cy_X9_setLookup tb_362 rfl rfl ⟨⟨rfl, rfl⟩, (Nat.le_of_ble_eq_true rfl), (Nat.le_of_ble_eq_true rfl)⟩ (Nat.le_of_ble_eq_true rfl) ?_
    refine lq_aload_n C0 dL_law_191 rfl rfl ?_
    refine lq_aload_n C0 dL_law_192 rfl rfl ?_
    refine lq_iload_n C0 dL_law_193 rfl rfl ?_
    refine lq_iconst (v := 1) C0 dL_law_194 (by decide) ?_
    refine lq_iadd C0 dL_law_195 ?_
    refine lq_sld C0 dL_law_196 (hin 1 (by omega)) ?_
    refine lq_aload_n C0 dL_law_197 rfl rfl ?_
    refine lq_iload_n C0 dL_law_198 rfl rfl ?_
    refine lq_iconst (v := 2) C0 dL_law_199 (by decide) ?_
    refine lq_iadd C0 dL_law_200 ?_
    refine lq_sld C0 dL_law_201 (hin 2 (by omega)) ?_
    refine lq_if0_T (tgt := 209) C0 dL_law_202 (by decide) hx ?_
    refine lq_iconst (v := 0) C0 dL_law_209 (by decide) ?_
    refine lq_call (As := [.int (xs (Int32.toNatClampNeg (nI i0 + 1))), .int 0]) C0 dL_law_210 (t_X10_setLookup w1 (xs (Int32.toNatClampNeg (nI i0 + 1))) 0 _ h2) ce_8_0 rfl cy_X10_setLookup tb_1025 rfl rfl ⟨⟨rfl, rfl⟩, (Nat.le_of_ble_eq_true rfl), (Nat.le_of_ble_eq_true rfl)⟩ (Nat.le_of_ble_eq_true rfl) ?_
    exact lq_eq_T (tgt := 874) C0 dL_law_213 (by decide) rfl (h w2 h3)
  · obtain ⟨r, w1, w2, h1, h2, h3⟩ := oq_setLookup H ht (xs (Int32.toNatClampNeg (nI i0 + 1))) 1
    refine lq_aload_n C0 dL_law_169 rfl rfl ?_
    refine lq_aload_n C0 dL_law_170 rfl rfl ?_
    refine lq_iload_n C0 dL_law_171 rfl rfl ?_
    refine lq_iconst (v := 1) C0 dL_law_172 (by decide) ?_
    refine lq_iadd C0 dL_law_173 ?_
    refine lq_sld C0 dL_law_174 (hin 1 (by omega)) ?_
    refine lq_aload_n C0 dL_law_175 rfl rfl ?_
    refine lq_iload_n C0 dL_law_176 rfl rfl ?_
    refine lq_iconst (v := 2) C0 dL_law_177 (by decide) ?_
    refine lq_iadd C0 dL_law_178 ?_
    refine lq_sld C0 dL_law_179 (hin 2 (by omega)) ?_
    refine lq_if0_F (tgt := 187) C0 dL_law_180 (by decide) hx ?_
    refine lq_iconst (v := 1) C0 dL_law_183 (by decide) ?_
    refine lq_goto (tgt := 188) C0 dL_law_184 (by decide) ?_
    refine lq_call (As := [.int (xs (Int32.toNatClampNeg (nI i0 + 1))), .int 1]) C0 dL_law_188 (t_X9_setLookup w (xs (Int32.toNatClampNeg (nI i0 + 1))) 1 _ h1) ce_7_0 rfl cy_X9_setLookup tb_362 rfl rfl ⟨⟨rfl, rfl⟩, (Nat.le_of_ble_eq_true rfl), (Nat.le_of_ble_eq_true rfl)⟩ (Nat.le_of_ble_eq_true rfl) ?_
    refine lq_aload_n C0 dL_law_191 rfl rfl ?_
    refine lq_aload_n C0 dL_law_192 rfl rfl ?_
    refine lq_iload_n C0 dL_law_193 rfl rfl ?_
    refine lq_iconst (v := 1) C0 dL_law_194 (by decide) ?_
    refine lq_iadd C0 dL_law_195 ?_
    refine lq_sld C0 dL_law_196 (hin 1 (by omega)) ?_
    refine lq_aload_n C0 dL_law_197 rfl rfl ?_
    refine lq_iload_n C0 dL_law_198 rfl rfl ?_
    refine lq_iconst (v := 2) C0 dL_law_199 (by decide) ?_
    refine lq_iadd C0 dL_law_200 ?_
    refine lq_sld C0 dL_law_201 (hin 2 (by omega)) ?_
    refine lq_if0_F (tgt := 209) C0 dL_law_202 (by decide) hx ?_
    refine lq_iconst (v := 1) C0 dL_law_205 (by decide) ?_
    refine lq_goto (tgt := 210) C0 dL_law_206 (by decide) ?_
    refine lq_call (As := [.int (xs (Int32.toNatClampNeg (nI i0 + 1))), .int 1]) C0 dL_law_210 (t_X10_setLookup w1 (xs (Int32.toNatClampNeg (nI i0 + 1))) 1 _ h2) ce_8_0 rfl cy_X10_setLookup tb_1025 rfl rfl ⟨⟨rfl, rfl⟩, (Nat.le_of_ble_eq_true rfl), (Nat.le_of_ble_eq_true rfl)⟩ (Nat.le_of_ble_eq_true rfl) ?_
    exact lq_eq_T (tgt := 874) C0 dL_law_213 (by decide) rfl (h w2 h3)
set_option maxHeartbeats 1000000 in
theorem lc_2 {p : Program} {l : Launch} {e : Env} {s : State} {m : MethodId} {below : List Frame} {meth : Method} {c : Code} {b L : Nat} {xs : Nat → Int32} {E : En} {w : Wd}  {t i0 : Nat} (C0 : Lc E p s m meth c b L xs) (hin : ∀ k, k ≤ 5 → vp_in (nI i0 + nI k) L) (H : Inv t w) (ht : t + 1 ≤ 600) (h : ∀ w2, Inv (t + 1) w2 → Lw p l e s m below meth c b E w2 874 [some (.ref b), some (.ref (E.1 7 0)), some (.ref (E.1 8 0)), some (.int (nI i0))] []) : Lw p l e s m below meth c b E w 218 [some (.ref b), some (.ref (E.1 7 0)), some (.ref (E.1 8 0)), some (.int (nI i0))] [] := by
  obtain ⟨r, w1, w2, h1, h2, h3⟩ := oq_setCodes H ht (xs (Int32.toNatClampNeg (nI i0 + 1))) (xs (Int32.toNatClampNeg (nI i0 + 2)))
  refine lq_aload_n C0 dL_law_218 rfl rfl ?_
  refine lq_aload_n C0 dL_law_219 rfl rfl ?_
  refine lq_iload_n C0 dL_law_220 rfl rfl ?_
  refine lq_iconst (v := 1) C0 dL_law_221 (by decide) ?_
  refine lq_iadd C0 dL_law_222 ?_
  refine lq_sld C0 dL_law_223 (hin 1 (by omega)) ?_
  refine lq_aload_n C0 dL_law_224 rfl rfl ?_
  refine lq_iload_n C0 dL_law_225 rfl rfl ?_
  refine lq_iconst (v := 2) C0 dL_law_226 (by decide) ?_
  refine lq_iadd C0 dL_law_227 ?_
  refine lq_sld C0 dL_law_228 (hin 2 (by omega)) ?_
  refine lq_call (As := [.int (xs (Int32.toNatClampNeg (nI i0 + 1))), .int (xs (Int32.toNatClampNeg (nI i0 + 2)))]) C0 dL_law_229 (t_X9_setCodes w (xs (Int32.toNatClampNeg (nI i0 + 1))) (xs (Int32.toNatClampNeg (nI i0 + 2))) _ h1) ce_7_0 rfl cy_X9_setCodes tb_379 rfl rfl ⟨⟨rfl, rfl⟩, (Nat.le_of_ble_eq_true rfl), (Nat.le_of_ble_eq_true rfl)⟩ (Nat.le_of_ble_eq_true rfl) ?_
  refine lq_aload_n C0 dL_law_232 rfl rfl ?_
  refine lq_aload_n C0 dL_law_233 rfl rfl ?_
  refine lq_iload_n C0 dL_law_234 rfl rfl ?_
  refine lq_iconst (v := 1) C0 dL_law_235 (by decide) ?_
  refine lq_iadd C0 dL_law_236 ?_
  refine lq_sld C0 dL_law_237 (hin 1 (by omega)) ?_
  refine lq_aload_n C0 dL_law_238 rfl rfl ?_
  refine lq_iload_n C0 dL_law_239 rfl rfl ?_
  refine lq_iconst (v := 2) C0 dL_law_240 (by decide) ?_
  refine lq_iadd C0 dL_law_241 ?_
  refine lq_sld C0 dL_law_242 (hin 2 (by omega)) ?_
  refine lq_call (As := [.int (xs (Int32.toNatClampNeg (nI i0 + 1))), .int (xs (Int32.toNatClampNeg (nI i0 + 2)))]) C0 dL_law_243 (t_X10_setCodes w1 (xs (Int32.toNatClampNeg (nI i0 + 1))) (xs (Int32.toNatClampNeg (nI i0 + 2))) _ h2) ce_8_0 rfl cy_X10_setCodes tb_1040 rfl rfl ⟨⟨rfl, rfl⟩, (Nat.le_of_ble_eq_true rfl), (Nat.le_of_ble_eq_true rfl)⟩ (Nat.le_of_ble_eq_true rfl) ?_
  exact lq_eq_T (tgt := 874) C0 dL_law_246 (by decide) rfl (h w2 h3)
set_option maxHeartbeats 1000000 in
theorem lc_3 {p : Program} {l : Launch} {e : Env} {s : State} {m : MethodId} {below : List Frame} {meth : Method} {c : Code} {b L : Nat} {xs : Nat → Int32} {E : En} {w : Wd}  {t i0 : Nat} (C0 : Lc E p s m meth c b L xs) (hin : ∀ k, k ≤ 5 → vp_in (nI i0 + nI k) L) (H : Inv t w) (ht : t + 1 ≤ 600) (h : ∀ w2, Inv (t + 1) w2 → Lw p l e s m below meth c b E w2 874 [some (.ref b), some (.ref (E.1 7 0)), some (.ref (E.1 8 0)), some (.int (nI i0))] []) : Lw p l e s m below meth c b E w 251 [some (.ref b), some (.ref (E.1 7 0)), some (.ref (E.1 8 0)), some (.int (nI i0))] [] := by
  obtain ⟨r, w1, w2, h1, h2, h3⟩ := oq_setLimit H ht (xs (Int32.toNatClampNeg (nI i0 + 1)))
  refine lq_aload_n C0 dL_law_251 rfl rfl ?_
  refine lq_aload_n C0 dL_law_252 rfl rfl ?_
  refine lq_iload_n C0 dL_law_253 rfl rfl ?_
  refine lq_iconst (v := 1) C0 dL_law_254 (by decide) ?_
  refine lq_iadd C0 dL_law_255 ?_
  refine lq_sld C0 dL_law_256 (hin 1 (by omega)) ?_
  refine lq_call (As := [.int (xs (Int32.toNatClampNeg (nI i0 + 1)))]) C0 dL_law_257 (t_X9_setLimit w (xs (Int32.toNatClampNeg (nI i0 + 1))) _ h1) ce_7_0 rfl cy_X9_setLimit tb_390 rfl rfl ⟨⟨rfl, rfl⟩, (Nat.le_of_ble_eq_true rfl), (Nat.le_of_ble_eq_true rfl)⟩ (Nat.le_of_ble_eq_true rfl) ?_
  refine lq_aload_n C0 dL_law_260 rfl rfl ?_
  refine lq_aload_n C0 dL_law_261 rfl rfl ?_
  refine lq_iload_n C0 dL_law_262 rfl rfl ?_
  refine lq_iconst (v := 1) C0 dL_law_263 (by decide) ?_
  refine lq_iadd C0 dL_law_264 ?_
  refine lq_sld C0 dL_law_265 (hin 1 (by omega)) ?_
  refine lq_call (As := [.int (xs (Int32.toNatClampNeg (nI i0 + 1)))]) C0 dL_law_266 (t_X10_setLimit w1 (xs (Int32.toNatClampNeg (nI i0 + 1))) _ h2) ce_8_0 rfl cy_X10_setLimit tb_1044 rfl rfl ⟨⟨rfl, rfl⟩, (Nat.le_of_ble_eq_true rfl), (Nat.le_of_ble_eq_true rfl)⟩ (Nat.le_of_ble_eq_true rfl) ?_
  exact lq_eq_T (tgt := 874) C0 dL_law_269 (by decide) rfl (h w2 h3)
set_option maxHeartbeats 1000000 in
theorem lc_4 {p : Program} {l : Launch} {e : Env} {s : State} {m : MethodId} {below : List Frame} {meth : Method} {c : Code} {b L : Nat} {xs : Nat → Int32} {E : En} {w : Wd}  {t i0 : Nat} (C0 : Lc E p s m meth c b L xs) (hin : ∀ k, k ≤ 5 → vp_in (nI i0 + nI k) L) (H : Inv t w) (ht : t + 1 ≤ 600) (h : ∀ w2, Inv (t + 1) w2 → Lw p l e s m below meth c b E w2 874 [some (.ref b), some (.ref (E.1 7 0)), some (.ref (E.1 8 0)), some (.int (nI i0))] []) : Lw p l e s m below meth c b E w 274 [some (.ref b), some (.ref (E.1 7 0)), some (.ref (E.1 8 0)), some (.int (nI i0))] [] := by
  obtain ⟨r, w1, w2, h1, h2, h3⟩ := oq_addRoute H ht (xs (Int32.toNatClampNeg (nI i0 + 1))) (xs (Int32.toNatClampNeg (nI i0 + 2))) (xs (Int32.toNatClampNeg (nI i0 + 3))) (xs (Int32.toNatClampNeg (nI i0 + 4))) (xs (Int32.toNatClampNeg (nI i0 + 5)))
  refine lq_aload_n C0 dL_law_274 rfl rfl ?_
  refine lq_aload_n C0 dL_law_275 rfl rfl ?_
  refine lq_iload_n C0 dL_law_276 rfl rfl ?_
  refine lq_iconst (v := 1) C0 dL_law_277 (by decide) ?_
  refine lq_iadd C0 dL_law_278 ?_
  refine lq_sld C0 dL_law_279 (hin 1 (by omega)) ?_
  refine lq_aload_n C0 dL_law_280 rfl rfl ?_
  refine lq_iload_n C0 dL_law_281 rfl rfl ?_
  refine lq_iconst (v := 2) C0 dL_law_282 (by decide) ?_
  refine lq_iadd C0 dL_law_283 ?_
  refine lq_sld C0 dL_law_284 (hin 2 (by omega)) ?_
  refine lq_aload_n C0 dL_law_285 rfl rfl ?_
  refine lq_iload_n C0 dL_law_286 rfl rfl ?_
  refine lq_iconst (v := 3) C0 dL_law_287 (by decide) ?_
  refine lq_iadd C0 dL_law_288 ?_
  refine lq_sld C0 dL_law_289 (hin 3 (by omega)) ?_
  refine lq_aload_n C0 dL_law_290 rfl rfl ?_
  refine lq_iload_n C0 dL_law_291 rfl rfl ?_
  refine lq_iconst (v := 4) C0 dL_law_292 (by decide) ?_
  refine lq_iadd C0 dL_law_293 ?_
  refine lq_sld C0 dL_law_294 (hin 4 (by omega)) ?_
  refine lq_aload_n C0 dL_law_295 rfl rfl ?_
  refine lq_iload_n C0 dL_law_296 rfl rfl ?_
  refine lq_iconst (v := 5) C0 dL_law_297 (by decide) ?_
  refine lq_iadd C0 dL_law_298 ?_
  refine lq_sld C0 dL_law_299 (hin 5 (by omega)) ?_
  refine lq_call (As := [.int (xs (Int32.toNatClampNeg (nI i0 + 1))), .int (xs (Int32.toNatClampNeg (nI i0 + 2))), .int (xs (Int32.toNatClampNeg (nI i0 + 3))), .int (xs (Int32.toNatClampNeg (nI i0 + 4))), .int (xs (Int32.toNatClampNeg (nI i0 + 5)))]) C0 dL_law_300 (t_X9_addRoute w (xs (Int32.toNatClampNeg (nI i0 + 1))) (xs (Int32.toNatClampNeg (nI i0 + 2))) (xs (Int32.toNatClampNeg (nI i0 + 3))) (xs (Int32.toNatClampNeg (nI i0 + 4))) (xs (Int32.toNatClampNeg (nI i0 + 5))) _ h1) ce_7_0 rfl cy_X9_addRoute tb_398 rfl rfl ⟨⟨rfl, rfl⟩, (Nat.le_of_ble_eq_true rfl), (Nat.le_of_ble_eq_true rfl)⟩ (Nat.le_of_ble_eq_true rfl) ?_
  refine lq_aload_n C0 dL_law_303 rfl rfl ?_
  refine lq_aload_n C0 dL_law_304 rfl rfl ?_
  refine lq_iload_n C0 dL_law_305 rfl rfl ?_
  refine lq_iconst (v := 1) C0 dL_law_306 (by decide) ?_
  refine lq_iadd C0 dL_law_307 ?_
  refine lq_sld C0 dL_law_308 (hin 1 (by omega)) ?_
  refine lq_aload_n C0 dL_law_309 rfl rfl ?_
  refine lq_iload_n C0 dL_law_310 rfl rfl ?_
  refine lq_iconst (v := 2) C0 dL_law_311 (by decide) ?_
  refine lq_iadd C0 dL_law_312 ?_
  refine lq_sld C0 dL_law_313 (hin 2 (by omega)) ?_
  refine lq_aload_n C0 dL_law_314 rfl rfl ?_
  refine lq_iload_n C0 dL_law_315 rfl rfl ?_
  refine lq_iconst (v := 3) C0 dL_law_316 (by decide) ?_
  refine lq_iadd C0 dL_law_317 ?_
  refine lq_sld C0 dL_law_318 (hin 3 (by omega)) ?_
  refine lq_aload_n C0 dL_law_319 rfl rfl ?_
  refine lq_iload_n C0 dL_law_320 rfl rfl ?_
  refine lq_iconst (v := 4) C0 dL_law_321 (by decide) ?_
  refine lq_iadd C0 dL_law_322 ?_
  refine lq_sld C0 dL_law_323 (hin 4 (by omega)) ?_
  refine lq_aload_n C0 dL_law_324 rfl rfl ?_
  refine lq_iload_n C0 dL_law_325 rfl rfl ?_
  refine lq_iconst (v := 5) C0 dL_law_326 (by decide) ?_
  refine lq_iadd C0 dL_law_327 ?_
  refine lq_sld C0 dL_law_328 (hin 5 (by omega)) ?_
  refine lq_call (As := [.int (xs (Int32.toNatClampNeg (nI i0 + 1))), .int (xs (Int32.toNatClampNeg (nI i0 + 2))), .int (xs (Int32.toNatClampNeg (nI i0 + 3))), .int (xs (Int32.toNatClampNeg (nI i0 + 4))), .int (xs (Int32.toNatClampNeg (nI i0 + 5)))]) C0 dL_law_329 (t_X10_addRoute w1 (xs (Int32.toNatClampNeg (nI i0 + 1))) (xs (Int32.toNatClampNeg (nI i0 + 2))) (xs (Int32.toNatClampNeg (nI i0 + 3))) (xs (Int32.toNatClampNeg (nI i0 + 4))) (xs (Int32.toNatClampNeg (nI i0 + 5))) _ h2) ce_8_0 rfl cy_X10_addRoute tb_1048 rfl rfl ⟨⟨rfl, rfl⟩, (Nat.le_of_ble_eq_true rfl), (Nat.le_of_ble_eq_true rfl)⟩ (Nat.le_of_ble_eq_true rfl) ?_
  exact lq_eq_T (tgt := 874) C0 dL_law_332 (by decide) rfl (h w2 h3)
set_option maxHeartbeats 1000000 in
theorem lc_5 {p : Program} {l : Launch} {e : Env} {s : State} {m : MethodId} {below : List Frame} {meth : Method} {c : Code} {b L : Nat} {xs : Nat → Int32} {E : En} {w : Wd}  {t i0 : Nat} (C0 : Lc E p s m meth c b L xs) (hin : ∀ k, k ≤ 5 → vp_in (nI i0 + nI k) L) (H : Inv t w) (ht : t + 1 ≤ 600) (h : ∀ w2, Inv (t + 1) w2 → Lw p l e s m below meth c b E w2 874 [some (.ref b), some (.ref (E.1 7 0)), some (.ref (E.1 8 0)), some (.int (nI i0))] []) : Lw p l e s m below meth c b E w 337 [some (.ref b), some (.ref (E.1 7 0)), some (.ref (E.1 8 0)), some (.int (nI i0))] [] := by
  obtain ⟨r, w1, w2, h1, h2, h3⟩ := oq_setCost H ht (xs (Int32.toNatClampNeg (nI i0 + 1))) (xs (Int32.toNatClampNeg (nI i0 + 2))) (xs (Int32.toNatClampNeg (nI i0 + 3)))
  refine lq_aload_n C0 dL_law_337 rfl rfl ?_
  refine lq_aload_n C0 dL_law_338 rfl rfl ?_
  refine lq_iload_n C0 dL_law_339 rfl rfl ?_
  refine lq_iconst (v := 1) C0 dL_law_340 (by decide) ?_
  refine lq_iadd C0 dL_law_341 ?_
  refine lq_sld C0 dL_law_342 (hin 1 (by omega)) ?_
  refine lq_aload_n C0 dL_law_343 rfl rfl ?_
  refine lq_iload_n C0 dL_law_344 rfl rfl ?_
  refine lq_iconst (v := 2) C0 dL_law_345 (by decide) ?_
  refine lq_iadd C0 dL_law_346 ?_
  refine lq_sld C0 dL_law_347 (hin 2 (by omega)) ?_
  refine lq_aload_n C0 dL_law_348 rfl rfl ?_
  refine lq_iload_n C0 dL_law_349 rfl rfl ?_
  refine lq_iconst (v := 3) C0 dL_law_350 (by decide) ?_
  refine lq_iadd C0 dL_law_351 ?_
  refine lq_sld C0 dL_law_352 (hin 3 (by omega)) ?_
  refine lq_call (As := [.int (xs (Int32.toNatClampNeg (nI i0 + 1))), .int (xs (Int32.toNatClampNeg (nI i0 + 2))), .int (xs (Int32.toNatClampNeg (nI i0 + 3)))]) C0 dL_law_353 (t_X9_setCost w (xs (Int32.toNatClampNeg (nI i0 + 1))) (xs (Int32.toNatClampNeg (nI i0 + 2))) (xs (Int32.toNatClampNeg (nI i0 + 3))) _ h1) ce_7_0 rfl cy_X9_setCost tb_420 rfl rfl ⟨⟨rfl, rfl⟩, (Nat.le_of_ble_eq_true rfl), (Nat.le_of_ble_eq_true rfl)⟩ (Nat.le_of_ble_eq_true rfl) ?_
  refine lq_aload_n C0 dL_law_356 rfl rfl ?_
  refine lq_aload_n C0 dL_law_357 rfl rfl ?_
  refine lq_iload_n C0 dL_law_358 rfl rfl ?_
  refine lq_iconst (v := 1) C0 dL_law_359 (by decide) ?_
  refine lq_iadd C0 dL_law_360 ?_
  refine lq_sld C0 dL_law_361 (hin 1 (by omega)) ?_
  refine lq_aload_n C0 dL_law_362 rfl rfl ?_
  refine lq_iload_n C0 dL_law_363 rfl rfl ?_
  refine lq_iconst (v := 2) C0 dL_law_364 (by decide) ?_
  refine lq_iadd C0 dL_law_365 ?_
  refine lq_sld C0 dL_law_366 (hin 2 (by omega)) ?_
  refine lq_aload_n C0 dL_law_367 rfl rfl ?_
  refine lq_iload_n C0 dL_law_368 rfl rfl ?_
  refine lq_iconst (v := 3) C0 dL_law_369 (by decide) ?_
  refine lq_iadd C0 dL_law_370 ?_
  refine lq_sld C0 dL_law_371 (hin 3 (by omega)) ?_
  refine lq_call (As := [.int (xs (Int32.toNatClampNeg (nI i0 + 1))), .int (xs (Int32.toNatClampNeg (nI i0 + 2))), .int (xs (Int32.toNatClampNeg (nI i0 + 3)))]) C0 dL_law_372 (t_X10_setCost w1 (xs (Int32.toNatClampNeg (nI i0 + 1))) (xs (Int32.toNatClampNeg (nI i0 + 2))) (xs (Int32.toNatClampNeg (nI i0 + 3))) _ h2) ce_8_0 rfl cy_X10_setCost tb_1061 rfl rfl ⟨⟨rfl, rfl⟩, (Nat.le_of_ble_eq_true rfl), (Nat.le_of_ble_eq_true rfl)⟩ (Nat.le_of_ble_eq_true rfl) ?_
  exact lq_eq_T (tgt := 874) C0 dL_law_375 (by decide) rfl (h w2 h3)
set_option maxHeartbeats 1000000 in
theorem lc_6 {p : Program} {l : Launch} {e : Env} {s : State} {m : MethodId} {below : List Frame} {meth : Method} {c : Code} {b L : Nat} {xs : Nat → Int32} {E : En} {w : Wd}  {t i0 : Nat} (C0 : Lc E p s m meth c b L xs) (hin : ∀ k, k ≤ 5 → vp_in (nI i0 + nI k) L) (H : Inv t w) (ht : t + 1 ≤ 600) (h : ∀ w2, Inv (t + 1) w2 → Lw p l e s m below meth c b E w2 874 [some (.ref b), some (.ref (E.1 7 0)), some (.ref (E.1 8 0)), some (.int (nI i0))] []) : Lw p l e s m below meth c b E w 380 [some (.ref b), some (.ref (E.1 7 0)), some (.ref (E.1 8 0)), some (.int (nI i0))] [] := by
  obtain ⟨r, w1, w2, h1, h2, h3⟩ := oq_port H ht (xs (Int32.toNatClampNeg (nI i0 + 1))) (xs (Int32.toNatClampNeg (nI i0 + 2)))
  refine lq_aload_n C0 dL_law_380 rfl rfl ?_
  refine lq_aload_n C0 dL_law_381 rfl rfl ?_
  refine lq_iload_n C0 dL_law_382 rfl rfl ?_
  refine lq_iconst (v := 1) C0 dL_law_383 (by decide) ?_
  refine lq_iadd C0 dL_law_384 ?_
  refine lq_sld C0 dL_law_385 (hin 1 (by omega)) ?_
  refine lq_aload_n C0 dL_law_386 rfl rfl ?_
  refine lq_iload_n C0 dL_law_387 rfl rfl ?_
  refine lq_iconst (v := 2) C0 dL_law_388 (by decide) ?_
  refine lq_iadd C0 dL_law_389 ?_
  refine lq_sld C0 dL_law_390 (hin 2 (by omega)) ?_
  refine lq_call (As := [.int (xs (Int32.toNatClampNeg (nI i0 + 1))), .int (xs (Int32.toNatClampNeg (nI i0 + 2)))]) C0 dL_law_391 (t_X9_port w (xs (Int32.toNatClampNeg (nI i0 + 1))) (xs (Int32.toNatClampNeg (nI i0 + 2))) _ h1) ce_7_0 rfl cy_X9_port tb_434 rfl rfl ⟨⟨rfl, rfl⟩, (Nat.le_of_ble_eq_true rfl), (Nat.le_of_ble_eq_true rfl)⟩ (Nat.le_of_ble_eq_true rfl) ?_
  refine lq_aload_n C0 dL_law_394 rfl rfl ?_
  refine lq_aload_n C0 dL_law_395 rfl rfl ?_
  refine lq_iload_n C0 dL_law_396 rfl rfl ?_
  refine lq_iconst (v := 1) C0 dL_law_397 (by decide) ?_
  refine lq_iadd C0 dL_law_398 ?_
  refine lq_sld C0 dL_law_399 (hin 1 (by omega)) ?_
  refine lq_aload_n C0 dL_law_400 rfl rfl ?_
  refine lq_iload_n C0 dL_law_401 rfl rfl ?_
  refine lq_iconst (v := 2) C0 dL_law_402 (by decide) ?_
  refine lq_iadd C0 dL_law_403 ?_
  refine lq_sld C0 dL_law_404 (hin 2 (by omega)) ?_
  refine lq_call (As := [.int (xs (Int32.toNatClampNeg (nI i0 + 1))), .int (xs (Int32.toNatClampNeg (nI i0 + 2)))]) C0 dL_law_405 (t_X10_port w1 (xs (Int32.toNatClampNeg (nI i0 + 1))) (xs (Int32.toNatClampNeg (nI i0 + 2))) _ h2) ce_8_0 rfl cy_X10_port tb_1065 rfl rfl ⟨⟨rfl, rfl⟩, (Nat.le_of_ble_eq_true rfl), (Nat.le_of_ble_eq_true rfl)⟩ (Nat.le_of_ble_eq_true rfl) ?_
  exact lq_eq_T (tgt := 874) C0 dL_law_408 (by decide) rfl (h w2 h3)
set_option maxHeartbeats 1000000 in
theorem lc_7 {p : Program} {l : Launch} {e : Env} {s : State} {m : MethodId} {below : List Frame} {meth : Method} {c : Code} {b L : Nat} {xs : Nat → Int32} {E : En} {w : Wd}  {t i0 : Nat} (C0 : Lc E p s m meth c b L xs) (hin : ∀ k, k ≤ 5 → vp_in (nI i0 + nI k) L) (H : Inv t w) (ht : t + 1 ≤ 600) (h : ∀ w2, Inv (t + 1) w2 → Lw p l e s m below meth c b E w2 874 [some (.ref b), some (.ref (E.1 7 0)), some (.ref (E.1 8 0)), some (.int (nI i0))] []) : Lw p l e s m below meth c b E w 413 [some (.ref b), some (.ref (E.1 7 0)), some (.ref (E.1 8 0)), some (.int (nI i0))] [] := by
  obtain ⟨r, w1, w2, h1, h2, h3⟩ := oq_unport H ht (xs (Int32.toNatClampNeg (nI i0 + 1)))
  refine lq_aload_n C0 dL_law_413 rfl rfl ?_
  refine lq_aload_n C0 dL_law_414 rfl rfl ?_
  refine lq_iload_n C0 dL_law_415 rfl rfl ?_
  refine lq_iconst (v := 1) C0 dL_law_416 (by decide) ?_
  refine lq_iadd C0 dL_law_417 ?_
  refine lq_sld C0 dL_law_418 (hin 1 (by omega)) ?_
  refine lq_call (As := [.int (xs (Int32.toNatClampNeg (nI i0 + 1)))]) C0 dL_law_419 (t_X9_unport w (xs (Int32.toNatClampNeg (nI i0 + 1))) _ h1) ce_7_0 rfl cy_X9_unport tb_466 rfl rfl ⟨⟨rfl, rfl⟩, (Nat.le_of_ble_eq_true rfl), (Nat.le_of_ble_eq_true rfl)⟩ (Nat.le_of_ble_eq_true rfl) ?_
  refine lq_aload_n C0 dL_law_422 rfl rfl ?_
  refine lq_aload_n C0 dL_law_423 rfl rfl ?_
  refine lq_iload_n C0 dL_law_424 rfl rfl ?_
  refine lq_iconst (v := 1) C0 dL_law_425 (by decide) ?_
  refine lq_iadd C0 dL_law_426 ?_
  refine lq_sld C0 dL_law_427 (hin 1 (by omega)) ?_
  refine lq_call (As := [.int (xs (Int32.toNatClampNeg (nI i0 + 1)))]) C0 dL_law_428 (t_X10_unport w1 (xs (Int32.toNatClampNeg (nI i0 + 1))) _ h2) ce_8_0 rfl cy_X10_unport tb_1080 rfl rfl ⟨⟨rfl, rfl⟩, (Nat.le_of_ble_eq_true rfl), (Nat.le_of_ble_eq_true rfl)⟩ (Nat.le_of_ble_eq_true rfl) ?_
  exact lq_eq_T (tgt := 874) C0 dL_law_431 (by decide) rfl (h w2 h3)
set_option maxHeartbeats 1000000 in
theorem lc_8 {p : Program} {l : Launch} {e : Env} {s : State} {m : MethodId} {below : List Frame} {meth : Method} {c : Code} {b L : Nat} {xs : Nat → Int32} {E : En} {w : Wd}  {t i0 : Nat} (C0 : Lc E p s m meth c b L xs) (hin : ∀ k, k ≤ 5 → vp_in (nI i0 + nI k) L) (H : Inv t w) (ht : t + 1 ≤ 600) (h : ∀ w2, Inv (t + 1) w2 → Lw p l e s m below meth c b E w2 874 [some (.ref b), some (.ref (E.1 7 0)), some (.ref (E.1 8 0)), some (.int (nI i0))] []) : Lw p l e s m below meth c b E w 436 [some (.ref b), some (.ref (E.1 7 0)), some (.ref (E.1 8 0)), some (.int (nI i0))] [] := by
  obtain ⟨r, w1, w2, h1, h2, h3⟩ := oq_call H ht (xs (Int32.toNatClampNeg (nI i0 + 1))) (xs (Int32.toNatClampNeg (nI i0 + 2)))
  refine lq_aload_n C0 dL_law_436 rfl rfl ?_
  refine lq_aload_n C0 dL_law_437 rfl rfl ?_
  refine lq_iload_n C0 dL_law_438 rfl rfl ?_
  refine lq_iconst (v := 1) C0 dL_law_439 (by decide) ?_
  refine lq_iadd C0 dL_law_440 ?_
  refine lq_sld C0 dL_law_441 (hin 1 (by omega)) ?_
  refine lq_aload_n C0 dL_law_442 rfl rfl ?_
  refine lq_iload_n C0 dL_law_443 rfl rfl ?_
  refine lq_iconst (v := 2) C0 dL_law_444 (by decide) ?_
  refine lq_iadd C0 dL_law_445 ?_
  refine lq_sld C0 dL_law_446 (hin 2 (by omega)) ?_
  refine lq_call (As := [.int (xs (Int32.toNatClampNeg (nI i0 + 1))), .int (xs (Int32.toNatClampNeg (nI i0 + 2)))]) C0 dL_law_447 (t_X9_call w (xs (Int32.toNatClampNeg (nI i0 + 1))) (xs (Int32.toNatClampNeg (nI i0 + 2))) _ h1) ce_7_0 rfl cy_X9_call tb_476 rfl rfl ⟨⟨rfl, rfl⟩, (Nat.le_of_ble_eq_true rfl), (Nat.le_of_ble_eq_true rfl)⟩ (Nat.le_of_ble_eq_true rfl) ?_
  refine lq_aload_n C0 dL_law_450 rfl rfl ?_
  refine lq_aload_n C0 dL_law_451 rfl rfl ?_
  refine lq_iload_n C0 dL_law_452 rfl rfl ?_
  refine lq_iconst (v := 1) C0 dL_law_453 (by decide) ?_
  refine lq_iadd C0 dL_law_454 ?_
  refine lq_sld C0 dL_law_455 (hin 1 (by omega)) ?_
  refine lq_aload_n C0 dL_law_456 rfl rfl ?_
  refine lq_iload_n C0 dL_law_457 rfl rfl ?_
  refine lq_iconst (v := 2) C0 dL_law_458 (by decide) ?_
  refine lq_iadd C0 dL_law_459 ?_
  refine lq_sld C0 dL_law_460 (hin 2 (by omega)) ?_
  refine lq_call (As := [.int (xs (Int32.toNatClampNeg (nI i0 + 1))), .int (xs (Int32.toNatClampNeg (nI i0 + 2)))]) C0 dL_law_461 (t_X10_call w1 (xs (Int32.toNatClampNeg (nI i0 + 1))) (xs (Int32.toNatClampNeg (nI i0 + 2))) _ h2) ce_8_0 rfl cy_X10_call tb_1084 rfl rfl ⟨⟨rfl, rfl⟩, (Nat.le_of_ble_eq_true rfl), (Nat.le_of_ble_eq_true rfl)⟩ (Nat.le_of_ble_eq_true rfl) ?_
  exact lq_eq_T (tgt := 874) C0 dL_law_464 (by decide) rfl (h w2 h3)
set_option maxHeartbeats 1000000 in
theorem lc_9 {p : Program} {l : Launch} {e : Env} {s : State} {m : MethodId} {below : List Frame} {meth : Method} {c : Code} {b L : Nat} {xs : Nat → Int32} {E : En} {w : Wd}  {t i0 : Nat} (C0 : Lc E p s m meth c b L xs) (hin : ∀ k, k ≤ 5 → vp_in (nI i0 + nI k) L) (H : Inv t w) (ht : t + 1 ≤ 600) (h : ∀ w2, Inv (t + 1) w2 → Lw p l e s m below meth c b E w2 874 [some (.ref b), some (.ref (E.1 7 0)), some (.ref (E.1 8 0)), some (.int (nI i0))] []) : Lw p l e s m below meth c b E w 469 [some (.ref b), some (.ref (E.1 7 0)), some (.ref (E.1 8 0)), some (.int (nI i0))] [] := by
  obtain ⟨r, w1, w2, h1, h2, h3⟩ := oq_end H ht (xs (Int32.toNatClampNeg (nI i0 + 1)))
  refine lq_aload_n C0 dL_law_469 rfl rfl ?_
  refine lq_aload_n C0 dL_law_470 rfl rfl ?_
  refine lq_iload_n C0 dL_law_471 rfl rfl ?_
  refine lq_iconst (v := 1) C0 dL_law_472 (by decide) ?_
  refine lq_iadd C0 dL_law_473 ?_
  refine lq_sld C0 dL_law_474 (hin 1 (by omega)) ?_
  refine lq_call (As := [.int (xs (Int32.toNatClampNeg (nI i0 + 1)))]) C0 dL_law_475 (t_X9_end w (xs (Int32.toNatClampNeg (nI i0 + 1))) _ h1) ce_7_0 rfl cy_X9_end tb_631 rfl rfl ⟨⟨rfl, rfl⟩, (Nat.le_of_ble_eq_true rfl), (Nat.le_of_ble_eq_true rfl)⟩ (Nat.le_of_ble_eq_true rfl) ?_
  refine lq_aload_n C0 dL_law_478 rfl rfl ?_
  refine lq_aload_n C0 dL_law_479 rfl rfl ?_
  refine lq_iload_n C0 dL_law_480 rfl rfl ?_
  refine lq_iconst (v := 1) C0 dL_law_481 (by decide) ?_
  refine lq_iadd C0 dL_law_482 ?_
  refine lq_sld C0 dL_law_483 (hin 1 (by omega)) ?_
  refine lq_call (As := [.int (xs (Int32.toNatClampNeg (nI i0 + 1)))]) C0 dL_law_484 (t_X10_end w1 (xs (Int32.toNatClampNeg (nI i0 + 1))) _ h2) ce_8_0 rfl cy_X10_end tb_1154 rfl rfl ⟨⟨rfl, rfl⟩, (Nat.le_of_ble_eq_true rfl), (Nat.le_of_ble_eq_true rfl)⟩ (Nat.le_of_ble_eq_true rfl) ?_
  exact lq_eq_T (tgt := 874) C0 dL_law_487 (by decide) rfl (h w2 h3)
set_option maxHeartbeats 1000000 in
theorem lc_10 {p : Program} {l : Launch} {e : Env} {s : State} {m : MethodId} {below : List Frame} {meth : Method} {c : Code} {b L : Nat} {xs : Nat → Int32} {E : En} {w : Wd}  {t i0 : Nat} (C0 : Lc E p s m meth c b L xs) (hin : ∀ k, k ≤ 5 → vp_in (nI i0 + nI k) L) (H : Inv t w) (ht : t + 1 ≤ 600) (h : ∀ w2, Inv (t + 1) w2 → Lw p l e s m below meth c b E w2 874 [some (.ref b), some (.ref (E.1 7 0)), some (.ref (E.1 8 0)), some (.int (nI i0))] []) : Lw p l e s m below meth c b E w 492 [some (.ref b), some (.ref (E.1 7 0)), some (.ref (E.1 8 0)), some (.int (nI i0))] [] := by
  obtain ⟨r, w1, w2, h1, h2, h3⟩ := oq_pass H ht (xs (Int32.toNatClampNeg (nI i0 + 1)))
  refine lq_aload_n C0 dL_law_492 rfl rfl ?_
  refine lq_aload_n C0 dL_law_493 rfl rfl ?_
  refine lq_iload_n C0 dL_law_494 rfl rfl ?_
  refine lq_iconst (v := 1) C0 dL_law_495 (by decide) ?_
  refine lq_iadd C0 dL_law_496 ?_
  refine lq_sld C0 dL_law_497 (hin 1 (by omega)) ?_
  refine lq_call (As := [.int (xs (Int32.toNatClampNeg (nI i0 + 1)))]) C0 dL_law_498 (t_X9_pass w (xs (Int32.toNatClampNeg (nI i0 + 1))) _ h1) ce_7_0 rfl cy_X9_pass tb_677 rfl rfl ⟨⟨rfl, rfl⟩, (Nat.le_of_ble_eq_true rfl), (Nat.le_of_ble_eq_true rfl)⟩ (Nat.le_of_ble_eq_true rfl) ?_
  refine lq_aload_n C0 dL_law_501 rfl rfl ?_
  refine lq_aload_n C0 dL_law_502 rfl rfl ?_
  refine lq_iload_n C0 dL_law_503 rfl rfl ?_
  refine lq_iconst (v := 1) C0 dL_law_504 (by decide) ?_
  refine lq_iadd C0 dL_law_505 ?_
  refine lq_sld C0 dL_law_506 (hin 1 (by omega)) ?_
  refine lq_call (As := [.int (xs (Int32.toNatClampNeg (nI i0 + 1)))]) C0 dL_law_507 (t_X10_pass w1 (xs (Int32.toNatClampNeg (nI i0 + 1))) _ h2) ce_8_0 rfl cy_X10_pass tb_1166 rfl rfl ⟨⟨rfl, rfl⟩, (Nat.le_of_ble_eq_true rfl), (Nat.le_of_ble_eq_true rfl)⟩ (Nat.le_of_ble_eq_true rfl) ?_
  exact lq_eq_T (tgt := 874) C0 dL_law_510 (by decide) rfl (h w2 h3)
set_option maxHeartbeats 1000000 in
theorem lc_11 {p : Program} {l : Launch} {e : Env} {s : State} {m : MethodId} {below : List Frame} {meth : Method} {c : Code} {b L : Nat} {xs : Nat → Int32} {E : En} {w : Wd}  {t i0 : Nat} (C0 : Lc E p s m meth c b L xs) (hin : ∀ k, k ≤ 5 → vp_in (nI i0 + nI k) L) (H : Inv t w) (ht : t + 1 ≤ 600) (h : ∀ w2, Inv (t + 1) w2 → Lw p l e s m below meth c b E w2 874 [some (.ref b), some (.ref (E.1 7 0)), some (.ref (E.1 8 0)), some (.int (nI i0))] []) : Lw p l e s m below meth c b E w 515 [some (.ref b), some (.ref (E.1 7 0)), some (.ref (E.1 8 0)), some (.int (nI i0))] [] := by
  obtain ⟨r, w1, w2, h1, h2, h3⟩ := oq_time H ht 
  refine lq_aload_n C0 dL_law_515 rfl rfl ?_
  refine lq_call (As := []) C0 dL_law_516 (t_X9_time w  _ h1) ce_7_0 rfl cy_X9_time tb_687 rfl rfl ⟨⟨rfl, rfl⟩, (Nat.le_of_ble_eq_true rfl), (Nat.le_of_ble_eq_true rfl)⟩ (Nat.le_of_ble_eq_true rfl) ?_
  refine lq_aload_n C0 dL_law_519 rfl rfl ?_
  refine lq_call (As := []) C0 dL_law_520 (t_X10_time w1  _ h2) ce_8_0 rfl cy_X10_time tb_1171 rfl rfl ⟨⟨rfl, rfl⟩, (Nat.le_of_ble_eq_true rfl), (Nat.le_of_ble_eq_true rfl)⟩ (Nat.le_of_ble_eq_true rfl) ?_
  exact lq_eq_T (tgt := 874) C0 dL_law_523 (by decide) rfl (h w2 h3)
set_option maxHeartbeats 1000000 in
theorem lc_12 {p : Program} {l : Launch} {e : Env} {s : State} {m : MethodId} {below : List Frame} {meth : Method} {c : Code} {b L : Nat} {xs : Nat → Int32} {E : En} {w : Wd}  {t i0 : Nat} (C0 : Lc E p s m meth c b L xs) (hin : ∀ k, k ≤ 5 → vp_in (nI i0 + nI k) L) (H : Inv t w) (ht : t + 1 ≤ 600) (h : ∀ w2, Inv (t + 1) w2 → Lw p l e s m below meth c b E w2 874 [some (.ref b), some (.ref (E.1 7 0)), some (.ref (E.1 8 0)), some (.int (nI i0))] []) : Lw p l e s m below meth c b E w 528 [some (.ref b), some (.ref (E.1 7 0)), some (.ref (E.1 8 0)), some (.int (nI i0))] [] := by
  obtain ⟨r, w1, w2, h1, h2, h3⟩ := oq_band H ht 
  refine lq_aload_n C0 dL_law_528 rfl rfl ?_
  refine lq_call (As := []) C0 dL_law_529 (t_X9_band w  _ h1) ce_7_0 rfl cy_X9_band tb_691 rfl rfl ⟨⟨rfl, rfl⟩, (Nat.le_of_ble_eq_true rfl), (Nat.le_of_ble_eq_true rfl)⟩ (Nat.le_of_ble_eq_true rfl) ?_
  refine lq_aload_n C0 dL_law_532 rfl rfl ?_
  refine lq_call (As := []) C0 dL_law_533 (t_X10_band w1  _ h2) ce_8_0 rfl cy_X10_band tb_1175 rfl rfl ⟨⟨rfl, rfl⟩, (Nat.le_of_ble_eq_true rfl), (Nat.le_of_ble_eq_true rfl)⟩ (Nat.le_of_ble_eq_true rfl) ?_
  exact lq_eq_T (tgt := 874) C0 dL_law_536 (by decide) rfl (h w2 h3)
set_option maxHeartbeats 1000000 in
theorem lc_13 {p : Program} {l : Launch} {e : Env} {s : State} {m : MethodId} {below : List Frame} {meth : Method} {c : Code} {b L : Nat} {xs : Nat → Int32} {E : En} {w : Wd}  {t i0 : Nat} (C0 : Lc E p s m meth c b L xs) (hin : ∀ k, k ≤ 5 → vp_in (nI i0 + nI k) L) (H : Inv t w) (ht : t + 1 ≤ 600) (h : ∀ w2, Inv (t + 1) w2 → Lw p l e s m below meth c b E w2 874 [some (.ref b), some (.ref (E.1 7 0)), some (.ref (E.1 8 0)), some (.int (nI i0))] []) : Lw p l e s m below meth c b E w 541 [some (.ref b), some (.ref (E.1 7 0)), some (.ref (E.1 8 0)), some (.int (nI i0))] [] := by
  obtain ⟨r, w1, w2, h1, h2, h3⟩ := oq_route H ht (xs (Int32.toNatClampNeg (nI i0 + 1))) (xs (Int32.toNatClampNeg (nI i0 + 2)))
  refine lq_aload_n C0 dL_law_541 rfl rfl ?_
  refine lq_aload_n C0 dL_law_542 rfl rfl ?_
  refine lq_iload_n C0 dL_law_543 rfl rfl ?_
  refine lq_iconst (v := 1) C0 dL_law_544 (by decide) ?_
  refine lq_iadd C0 dL_law_545 ?_
  refine lq_sld C0 dL_law_546 (hin 1 (by omega)) ?_
  refine lq_aload_n C0 dL_law_547 rfl rfl ?_
  refine lq_iload_n C0 dL_law_548 rfl rfl ?_
  refine lq_iconst (v := 2) C0 dL_law_549 (by decide) ?_
  refine lq_iadd C0 dL_law_550 ?_
  refine lq_sld C0 dL_law_551 (hin 2 (by omega)) ?_
  refine lq_call (As := [.int (xs (Int32.toNatClampNeg (nI i0 + 1))), .int (xs (Int32.toNatClampNeg (nI i0 + 2)))]) C0 dL_law_552 (t_X9_route w (xs (Int32.toNatClampNeg (nI i0 + 1))) (xs (Int32.toNatClampNeg (nI i0 + 2))) _ h1) ce_7_0 rfl cy_X9_route tb_696 rfl rfl ⟨⟨rfl, rfl⟩, (Nat.le_of_ble_eq_true rfl), (Nat.le_of_ble_eq_true rfl)⟩ (Nat.le_of_ble_eq_true rfl) ?_
  refine lq_aload_n C0 dL_law_555 rfl rfl ?_
  refine lq_aload_n C0 dL_law_556 rfl rfl ?_
  refine lq_iload_n C0 dL_law_557 rfl rfl ?_
  refine lq_iconst (v := 1) C0 dL_law_558 (by decide) ?_
  refine lq_iadd C0 dL_law_559 ?_
  refine lq_sld C0 dL_law_560 (hin 1 (by omega)) ?_
  refine lq_aload_n C0 dL_law_561 rfl rfl ?_
  refine lq_iload_n C0 dL_law_562 rfl rfl ?_
  refine lq_iconst (v := 2) C0 dL_law_563 (by decide) ?_
  refine lq_iadd C0 dL_law_564 ?_
  refine lq_sld C0 dL_law_565 (hin 2 (by omega)) ?_
  refine lq_call (As := [.int (xs (Int32.toNatClampNeg (nI i0 + 1))), .int (xs (Int32.toNatClampNeg (nI i0 + 2)))]) C0 dL_law_566 (t_X10_route w1 (xs (Int32.toNatClampNeg (nI i0 + 1))) (xs (Int32.toNatClampNeg (nI i0 + 2))) _ h2) ce_8_0 rfl cy_X10_route tb_1179 rfl rfl ⟨⟨rfl, rfl⟩, (Nat.le_of_ble_eq_true rfl), (Nat.le_of_ble_eq_true rfl)⟩ (Nat.le_of_ble_eq_true rfl) ?_
  exact lq_eq_T (tgt := 874) C0 dL_law_569 (by decide) rfl (h w2 h3)
set_option maxHeartbeats 1000000 in
theorem lc_14 {p : Program} {l : Launch} {e : Env} {s : State} {m : MethodId} {below : List Frame} {meth : Method} {c : Code} {b L : Nat} {xs : Nat → Int32} {E : En} {w : Wd}  {t i0 : Nat} (C0 : Lc E p s m meth c b L xs) (hin : ∀ k, k ≤ 5 → vp_in (nI i0 + nI k) L) (H : Inv t w) (ht : t + 1 ≤ 600) (h : ∀ w2, Inv (t + 1) w2 → Lw p l e s m below meth c b E w2 874 [some (.ref b), some (.ref (E.1 7 0)), some (.ref (E.1 8 0)), some (.int (nI i0))] []) : Lw p l e s m below meth c b E w 574 [some (.ref b), some (.ref (E.1 7 0)), some (.ref (E.1 8 0)), some (.int (nI i0))] [] := by
  obtain ⟨r, w1, w2, h1, h2, h3⟩ := oq_choice H ht (xs (Int32.toNatClampNeg (nI i0 + 1))) (xs (Int32.toNatClampNeg (nI i0 + 2))) (xs (Int32.toNatClampNeg (nI i0 + 3)))
  refine lq_aload_n C0 dL_law_574 rfl rfl ?_
  refine lq_aload_n C0 dL_law_575 rfl rfl ?_
  refine lq_iload_n C0 dL_law_576 rfl rfl ?_
  refine lq_iconst (v := 1) C0 dL_law_577 (by decide) ?_
  refine lq_iadd C0 dL_law_578 ?_
  refine lq_sld C0 dL_law_579 (hin 1 (by omega)) ?_
  refine lq_aload_n C0 dL_law_580 rfl rfl ?_
  refine lq_iload_n C0 dL_law_581 rfl rfl ?_
  refine lq_iconst (v := 2) C0 dL_law_582 (by decide) ?_
  refine lq_iadd C0 dL_law_583 ?_
  refine lq_sld C0 dL_law_584 (hin 2 (by omega)) ?_
  refine lq_aload_n C0 dL_law_585 rfl rfl ?_
  refine lq_iload_n C0 dL_law_586 rfl rfl ?_
  refine lq_iconst (v := 3) C0 dL_law_587 (by decide) ?_
  refine lq_iadd C0 dL_law_588 ?_
  refine lq_sld C0 dL_law_589 (hin 3 (by omega)) ?_
  refine lq_call (As := [.int (xs (Int32.toNatClampNeg (nI i0 + 1))), .int (xs (Int32.toNatClampNeg (nI i0 + 2))), .int (xs (Int32.toNatClampNeg (nI i0 + 3)))]) C0 dL_law_590 (t_X9_choice w (xs (Int32.toNatClampNeg (nI i0 + 1))) (xs (Int32.toNatClampNeg (nI i0 + 2))) (xs (Int32.toNatClampNeg (nI i0 + 3))) _ h1) ce_7_0 rfl cy_X9_choice tb_704 rfl rfl ⟨⟨rfl, rfl⟩, (Nat.le_of_ble_eq_true rfl), (Nat.le_of_ble_eq_true rfl)⟩ (Nat.le_of_ble_eq_true rfl) ?_
  refine lq_aload_n C0 dL_law_593 rfl rfl ?_
  refine lq_aload_n C0 dL_law_594 rfl rfl ?_
  refine lq_iload_n C0 dL_law_595 rfl rfl ?_
  refine lq_iconst (v := 1) C0 dL_law_596 (by decide) ?_
  refine lq_iadd C0 dL_law_597 ?_
  refine lq_sld C0 dL_law_598 (hin 1 (by omega)) ?_
  refine lq_aload_n C0 dL_law_599 rfl rfl ?_
  refine lq_iload_n C0 dL_law_600 rfl rfl ?_
  refine lq_iconst (v := 2) C0 dL_law_601 (by decide) ?_
  refine lq_iadd C0 dL_law_602 ?_
  refine lq_sld C0 dL_law_603 (hin 2 (by omega)) ?_
  refine lq_aload_n C0 dL_law_604 rfl rfl ?_
  refine lq_iload_n C0 dL_law_605 rfl rfl ?_
  refine lq_iconst (v := 3) C0 dL_law_606 (by decide) ?_
  refine lq_iadd C0 dL_law_607 ?_
  refine lq_sld C0 dL_law_608 (hin 3 (by omega)) ?_
  refine lq_call (As := [.int (xs (Int32.toNatClampNeg (nI i0 + 1))), .int (xs (Int32.toNatClampNeg (nI i0 + 2))), .int (xs (Int32.toNatClampNeg (nI i0 + 3)))]) C0 dL_law_609 (t_X10_choice w1 (xs (Int32.toNatClampNeg (nI i0 + 1))) (xs (Int32.toNatClampNeg (nI i0 + 2))) (xs (Int32.toNatClampNeg (nI i0 + 3))) _ h2) ce_8_0 rfl cy_X10_choice tb_1183 rfl rfl ⟨⟨rfl, rfl⟩, (Nat.le_of_ble_eq_true rfl), (Nat.le_of_ble_eq_true rfl)⟩ (Nat.le_of_ble_eq_true rfl) ?_
  exact lq_eq_T (tgt := 874) C0 dL_law_612 (by decide) rfl (h w2 h3)
set_option maxHeartbeats 1000000 in
theorem lc_15 {p : Program} {l : Launch} {e : Env} {s : State} {m : MethodId} {below : List Frame} {meth : Method} {c : Code} {b L : Nat} {xs : Nat → Int32} {E : En} {w : Wd}  {t i0 : Nat} (C0 : Lc E p s m meth c b L xs) (hin : ∀ k, k ≤ 5 → vp_in (nI i0 + nI k) L) (H : Inv t w) (ht : t + 1 ≤ 600) (h : ∀ w2, Inv (t + 1) w2 → Lw p l e s m below meth c b E w2 874 [some (.ref b), some (.ref (E.1 7 0)), some (.ref (E.1 8 0)), some (.int (nI i0))] []) : Lw p l e s m below meth c b E w 617 [some (.ref b), some (.ref (E.1 7 0)), some (.ref (E.1 8 0)), some (.int (nI i0))] [] := by
  obtain ⟨r, w1, w2, h1, h2, h3⟩ := oq_calls H ht 
  refine lq_aload_n C0 dL_law_617 rfl rfl ?_
  refine lq_call (As := []) C0 dL_law_618 (t_X9_calls w  _ h1) ce_7_0 rfl cy_X9_calls tb_711 rfl rfl ⟨⟨rfl, rfl⟩, (Nat.le_of_ble_eq_true rfl), (Nat.le_of_ble_eq_true rfl)⟩ (Nat.le_of_ble_eq_true rfl) ?_
  refine lq_aload_n C0 dL_law_621 rfl rfl ?_
  refine lq_call (As := []) C0 dL_law_622 (t_X10_calls w1  _ h2) ce_8_0 rfl cy_X10_calls tb_1187 rfl rfl ⟨⟨rfl, rfl⟩, (Nat.le_of_ble_eq_true rfl), (Nat.le_of_ble_eq_true rfl)⟩ (Nat.le_of_ble_eq_true rfl) ?_
  exact lq_eq_T (tgt := 874) C0 dL_law_625 (by decide) rfl (h w2 h3)
set_option maxHeartbeats 1000000 in
theorem lc_16 {p : Program} {l : Launch} {e : Env} {s : State} {m : MethodId} {below : List Frame} {meth : Method} {c : Code} {b L : Nat} {xs : Nat → Int32} {E : En} {w : Wd}  {t i0 : Nat} (C0 : Lc E p s m meth c b L xs) (hin : ∀ k, k ≤ 5 → vp_in (nI i0 + nI k) L) (H : Inv t w) (ht : t + 1 ≤ 600) (h : ∀ w2, Inv (t + 1) w2 → Lw p l e s m below meth c b E w2 874 [some (.ref b), some (.ref (E.1 7 0)), some (.ref (E.1 8 0)), some (.int (nI i0))] []) : Lw p l e s m below meth c b E w 630 [some (.ref b), some (.ref (E.1 7 0)), some (.ref (E.1 8 0)), some (.int (nI i0))] [] := by
  obtain ⟨r, w1, w2, h1, h2, h3⟩ := oq_way H ht (xs (Int32.toNatClampNeg (nI i0 + 1))) (xs (Int32.toNatClampNeg (nI i0 + 2)))
  refine lq_aload_n C0 dL_law_630 rfl rfl ?_
  refine lq_aload_n C0 dL_law_631 rfl rfl ?_
  refine lq_iload_n C0 dL_law_632 rfl rfl ?_
  refine lq_iconst (v := 1) C0 dL_law_633 (by decide) ?_
  refine lq_iadd C0 dL_law_634 ?_
  refine lq_sld C0 dL_law_635 (hin 1 (by omega)) ?_
  refine lq_aload_n C0 dL_law_636 rfl rfl ?_
  refine lq_iload_n C0 dL_law_637 rfl rfl ?_
  refine lq_iconst (v := 2) C0 dL_law_638 (by decide) ?_
  refine lq_iadd C0 dL_law_639 ?_
  refine lq_sld C0 dL_law_640 (hin 2 (by omega)) ?_
  refine lq_call (As := [.int (xs (Int32.toNatClampNeg (nI i0 + 1))), .int (xs (Int32.toNatClampNeg (nI i0 + 2)))]) C0 dL_law_641 (t_X9_way w (xs (Int32.toNatClampNeg (nI i0 + 1))) (xs (Int32.toNatClampNeg (nI i0 + 2))) _ h1) ce_7_0 rfl cy_X9_way tb_719 rfl rfl ⟨⟨rfl, rfl⟩, (Nat.le_of_ble_eq_true rfl), (Nat.le_of_ble_eq_true rfl)⟩ (Nat.le_of_ble_eq_true rfl) ?_
  refine lq_aload_n C0 dL_law_644 rfl rfl ?_
  refine lq_aload_n C0 dL_law_645 rfl rfl ?_
  refine lq_iload_n C0 dL_law_646 rfl rfl ?_
  refine lq_iconst (v := 1) C0 dL_law_647 (by decide) ?_
  refine lq_iadd C0 dL_law_648 ?_
  refine lq_sld C0 dL_law_649 (hin 1 (by omega)) ?_
  refine lq_aload_n C0 dL_law_650 rfl rfl ?_
  refine lq_iload_n C0 dL_law_651 rfl rfl ?_
  refine lq_iconst (v := 2) C0 dL_law_652 (by decide) ?_
  refine lq_iadd C0 dL_law_653 ?_
  refine lq_sld C0 dL_law_654 (hin 2 (by omega)) ?_
  refine lq_call (As := [.int (xs (Int32.toNatClampNeg (nI i0 + 1))), .int (xs (Int32.toNatClampNeg (nI i0 + 2)))]) C0 dL_law_655 (t_X10_way w1 (xs (Int32.toNatClampNeg (nI i0 + 1))) (xs (Int32.toNatClampNeg (nI i0 + 2))) _ h2) ce_8_0 rfl cy_X10_way tb_1191 rfl rfl ⟨⟨rfl, rfl⟩, (Nat.le_of_ble_eq_true rfl), (Nat.le_of_ble_eq_true rfl)⟩ (Nat.le_of_ble_eq_true rfl) ?_
  exact lq_eq_T (tgt := 874) C0 dL_law_658 (by decide) rfl (h w2 h3)
set_option maxHeartbeats 1000000 in
theorem lc_17 {p : Program} {l : Launch} {e : Env} {s : State} {m : MethodId} {below : List Frame} {meth : Method} {c : Code} {b L : Nat} {xs : Nat → Int32} {E : En} {w : Wd}  {t i0 : Nat} (C0 : Lc E p s m meth c b L xs) (hin : ∀ k, k ≤ 5 → vp_in (nI i0 + nI k) L) (H : Inv t w) (ht : t + 1 ≤ 600) (h : ∀ w2, Inv (t + 1) w2 → Lw p l e s m below meth c b E w2 874 [some (.ref b), some (.ref (E.1 7 0)), some (.ref (E.1 8 0)), some (.int (nI i0))] []) : Lw p l e s m below meth c b E w 663 [some (.ref b), some (.ref (E.1 7 0)), some (.ref (E.1 8 0)), some (.int (nI i0))] [] := by
  obtain ⟨r, w1, w2, h1, h2, h3⟩ := oq_called H ht (xs (Int32.toNatClampNeg (nI i0 + 1)))
  refine lq_aload_n C0 dL_law_663 rfl rfl ?_
  refine lq_aload_n C0 dL_law_664 rfl rfl ?_
  refine lq_iload_n C0 dL_law_665 rfl rfl ?_
  refine lq_iconst (v := 1) C0 dL_law_666 (by decide) ?_
  refine lq_iadd C0 dL_law_667 ?_
  refine lq_sld C0 dL_law_668 (hin 1 (by omega)) ?_
  refine lq_call (As := [.int (xs (Int32.toNatClampNeg (nI i0 + 1)))]) C0 dL_law_669 (t_X9_called w (xs (Int32.toNatClampNeg (nI i0 + 1))) _ h1) ce_7_0 rfl cy_X9_called tb_724 rfl rfl ⟨⟨rfl, rfl⟩, (Nat.le_of_ble_eq_true rfl), (Nat.le_of_ble_eq_true rfl)⟩ (Nat.le_of_ble_eq_true rfl) ?_
  refine lq_aload_n C0 dL_law_672 rfl rfl ?_
  refine lq_aload_n C0 dL_law_673 rfl rfl ?_
  refine lq_iload_n C0 dL_law_674 rfl rfl ?_
  refine lq_iconst (v := 1) C0 dL_law_675 (by decide) ?_
  refine lq_iadd C0 dL_law_676 ?_
  refine lq_sld C0 dL_law_677 (hin 1 (by omega)) ?_
  refine lq_call (As := [.int (xs (Int32.toNatClampNeg (nI i0 + 1)))]) C0 dL_law_678 (t_X10_called w1 (xs (Int32.toNatClampNeg (nI i0 + 1))) _ h2) ce_8_0 rfl cy_X10_called tb_1195 rfl rfl ⟨⟨rfl, rfl⟩, (Nat.le_of_ble_eq_true rfl), (Nat.le_of_ble_eq_true rfl)⟩ (Nat.le_of_ble_eq_true rfl) ?_
  exact lq_eq_T (tgt := 874) C0 dL_law_681 (by decide) rfl (h w2 h3)
set_option maxHeartbeats 1000000 in
theorem lc_18 {p : Program} {l : Launch} {e : Env} {s : State} {m : MethodId} {below : List Frame} {meth : Method} {c : Code} {b L : Nat} {xs : Nat → Int32} {E : En} {w : Wd}  {t i0 : Nat} (C0 : Lc E p s m meth c b L xs) (hin : ∀ k, k ≤ 5 → vp_in (nI i0 + nI k) L) (H : Inv t w) (ht : t + 1 ≤ 600) (h : ∀ w2, Inv (t + 1) w2 → Lw p l e s m below meth c b E w2 874 [some (.ref b), some (.ref (E.1 7 0)), some (.ref (E.1 8 0)), some (.int (nI i0))] []) : Lw p l e s m below meth c b E w 686 [some (.ref b), some (.ref (E.1 7 0)), some (.ref (E.1 8 0)), some (.int (nI i0))] [] := by
  obtain ⟨r, w1, w2, h1, h2, h3⟩ := oq_owes H ht (xs (Int32.toNatClampNeg (nI i0 + 1))) (xs (Int32.toNatClampNeg (nI i0 + 2)))
  refine lq_aload_n C0 dL_law_686 rfl rfl ?_
  refine lq_aload_n C0 dL_law_687 rfl rfl ?_
  refine lq_iload_n C0 dL_law_688 rfl rfl ?_
  refine lq_iconst (v := 1) C0 dL_law_689 (by decide) ?_
  refine lq_iadd C0 dL_law_690 ?_
  refine lq_sld C0 dL_law_691 (hin 1 (by omega)) ?_
  refine lq_aload_n C0 dL_law_692 rfl rfl ?_
  refine lq_iload_n C0 dL_law_693 rfl rfl ?_
  refine lq_iconst (v := 2) C0 dL_law_694 (by decide) ?_
  refine lq_iadd C0 dL_law_695 ?_
  refine lq_sld C0 dL_law_696 (hin 2 (by omega)) ?_
  refine lq_call (As := [.int (xs (Int32.toNatClampNeg (nI i0 + 1))), .int (xs (Int32.toNatClampNeg (nI i0 + 2)))]) C0 dL_law_697 (t_X9_owes w (xs (Int32.toNatClampNeg (nI i0 + 1))) (xs (Int32.toNatClampNeg (nI i0 + 2))) _ h1) ce_7_0 rfl cy_X9_owes tb_732 rfl rfl ⟨⟨rfl, rfl⟩, (Nat.le_of_ble_eq_true rfl), (Nat.le_of_ble_eq_true rfl)⟩ (Nat.le_of_ble_eq_true rfl) ?_
  refine lq_aload_n C0 dL_law_700 rfl rfl ?_
  refine lq_aload_n C0 dL_law_701 rfl rfl ?_
  refine lq_iload_n C0 dL_law_702 rfl rfl ?_
  refine lq_iconst (v := 1) C0 dL_law_703 (by decide) ?_
  refine lq_iadd C0 dL_law_704 ?_
  refine lq_sld C0 dL_law_705 (hin 1 (by omega)) ?_
  refine lq_aload_n C0 dL_law_706 rfl rfl ?_
  refine lq_iload_n C0 dL_law_707 rfl rfl ?_
  refine lq_iconst (v := 2) C0 dL_law_708 (by decide) ?_
  refine lq_iadd C0 dL_law_709 ?_
  refine lq_sld C0 dL_law_710 (hin 2 (by omega)) ?_
  refine lq_call (As := [.int (xs (Int32.toNatClampNeg (nI i0 + 1))), .int (xs (Int32.toNatClampNeg (nI i0 + 2)))]) C0 dL_law_711 (t_X10_owes w1 (xs (Int32.toNatClampNeg (nI i0 + 1))) (xs (Int32.toNatClampNeg (nI i0 + 2))) _ h2) ce_8_0 rfl cy_X10_owes tb_1199 rfl rfl ⟨⟨rfl, rfl⟩, (Nat.le_of_ble_eq_true rfl), (Nat.le_of_ble_eq_true rfl)⟩ (Nat.le_of_ble_eq_true rfl) ?_
  exact lq_eq_T (tgt := 874) C0 dL_law_714 (by decide) rfl (h w2 h3)
set_option maxHeartbeats 1000000 in
theorem lc_19 {p : Program} {l : Launch} {e : Env} {s : State} {m : MethodId} {below : List Frame} {meth : Method} {c : Code} {b L : Nat} {xs : Nat → Int32} {E : En} {w : Wd}  {t i0 : Nat} (C0 : Lc E p s m meth c b L xs) (hin : ∀ k, k ≤ 5 → vp_in (nI i0 + nI k) L) (H : Inv t w) (ht : t + 1 ≤ 600) (h : ∀ w2, Inv (t + 1) w2 → Lw p l e s m below meth c b E w2 874 [some (.ref b), some (.ref (E.1 7 0)), some (.ref (E.1 8 0)), some (.int (nI i0))] []) : Lw p l e s m below meth c b E w 719 [some (.ref b), some (.ref (E.1 7 0)), some (.ref (E.1 8 0)), some (.int (nI i0))] [] := by
  obtain ⟨r, w1, w2, h1, h2, h3⟩ := oq_attempts H ht 
  refine lq_aload_n C0 dL_law_719 rfl rfl ?_
  refine lq_call (As := []) C0 dL_law_720 (t_X9_attempts w  _ h1) ce_7_0 rfl cy_X9_attempts tb_740 rfl rfl ⟨⟨rfl, rfl⟩, (Nat.le_of_ble_eq_true rfl), (Nat.le_of_ble_eq_true rfl)⟩ (Nat.le_of_ble_eq_true rfl) ?_
  refine lq_aload_n C0 dL_law_723 rfl rfl ?_
  refine lq_call (As := []) C0 dL_law_724 (t_X10_attempts w1  _ h2) ce_8_0 rfl cy_X10_attempts tb_1203 rfl rfl ⟨⟨rfl, rfl⟩, (Nat.le_of_ble_eq_true rfl), (Nat.le_of_ble_eq_true rfl)⟩ (Nat.le_of_ble_eq_true rfl) ?_
  exact lq_eq_T (tgt := 874) C0 dL_law_727 (by decide) rfl (h w2 h3)
set_option maxHeartbeats 1000000 in
theorem lc_20 {p : Program} {l : Launch} {e : Env} {s : State} {m : MethodId} {below : List Frame} {meth : Method} {c : Code} {b L : Nat} {xs : Nat → Int32} {E : En} {w : Wd}  {t i0 : Nat} (C0 : Lc E p s m meth c b L xs) (hin : ∀ k, k ≤ 5 → vp_in (nI i0 + nI k) L) (H : Inv t w) (ht : t + 1 ≤ 600) (h : ∀ w2, Inv (t + 1) w2 → Lw p l e s m below meth c b E w2 874 [some (.ref b), some (.ref (E.1 7 0)), some (.ref (E.1 8 0)), some (.int (nI i0))] []) : Lw p l e s m below meth c b E w 732 [some (.ref b), some (.ref (E.1 7 0)), some (.ref (E.1 8 0)), some (.int (nI i0))] [] := by
  obtain ⟨r, w1, w2, h1, h2, h3⟩ := oq_attempt H ht (xs (Int32.toNatClampNeg (nI i0 + 1))) (xs (Int32.toNatClampNeg (nI i0 + 2)))
  refine lq_aload_n C0 dL_law_732 rfl rfl ?_
  refine lq_aload_n C0 dL_law_733 rfl rfl ?_
  refine lq_iload_n C0 dL_law_734 rfl rfl ?_
  refine lq_iconst (v := 1) C0 dL_law_735 (by decide) ?_
  refine lq_iadd C0 dL_law_736 ?_
  refine lq_sld C0 dL_law_737 (hin 1 (by omega)) ?_
  refine lq_aload_n C0 dL_law_738 rfl rfl ?_
  refine lq_iload_n C0 dL_law_739 rfl rfl ?_
  refine lq_iconst (v := 2) C0 dL_law_740 (by decide) ?_
  refine lq_iadd C0 dL_law_741 ?_
  refine lq_sld C0 dL_law_742 (hin 2 (by omega)) ?_
  refine lq_call (As := [.int (xs (Int32.toNatClampNeg (nI i0 + 1))), .int (xs (Int32.toNatClampNeg (nI i0 + 2)))]) C0 dL_law_743 (t_X9_attempt w (xs (Int32.toNatClampNeg (nI i0 + 1))) (xs (Int32.toNatClampNeg (nI i0 + 2))) _ h1) ce_7_0 rfl cy_X9_attempt tb_752 rfl rfl ⟨⟨rfl, rfl⟩, (Nat.le_of_ble_eq_true rfl), (Nat.le_of_ble_eq_true rfl)⟩ (Nat.le_of_ble_eq_true rfl) ?_
  refine lq_aload_n C0 dL_law_746 rfl rfl ?_
  refine lq_aload_n C0 dL_law_747 rfl rfl ?_
  refine lq_iload_n C0 dL_law_748 rfl rfl ?_
  refine lq_iconst (v := 1) C0 dL_law_749 (by decide) ?_
  refine lq_iadd C0 dL_law_750 ?_
  refine lq_sld C0 dL_law_751 (hin 1 (by omega)) ?_
  refine lq_aload_n C0 dL_law_752 rfl rfl ?_
  refine lq_iload_n C0 dL_law_753 rfl rfl ?_
  refine lq_iconst (v := 2) C0 dL_law_754 (by decide) ?_
  refine lq_iadd C0 dL_law_755 ?_
  refine lq_sld C0 dL_law_756 (hin 2 (by omega)) ?_
  refine lq_call (As := [.int (xs (Int32.toNatClampNeg (nI i0 + 1))), .int (xs (Int32.toNatClampNeg (nI i0 + 2)))]) C0 dL_law_757 (t_X10_attempt w1 (xs (Int32.toNatClampNeg (nI i0 + 1))) (xs (Int32.toNatClampNeg (nI i0 + 2))) _ h2) ce_8_0 rfl cy_X10_attempt tb_1207 rfl rfl ⟨⟨rfl, rfl⟩, (Nat.le_of_ble_eq_true rfl), (Nat.le_of_ble_eq_true rfl)⟩ (Nat.le_of_ble_eq_true rfl) ?_
  exact lq_eq_T (tgt := 874) C0 dL_law_760 (by decide) rfl (h w2 h3)
set_option maxHeartbeats 1000000 in
theorem lc_21 {p : Program} {l : Launch} {e : Env} {s : State} {m : MethodId} {below : List Frame} {meth : Method} {c : Code} {b L : Nat} {xs : Nat → Int32} {E : En} {w : Wd}  {t i0 : Nat} (C0 : Lc E p s m meth c b L xs) (hin : ∀ k, k ≤ 5 → vp_in (nI i0 + nI k) L) (H : Inv t w) (ht : t + 1 ≤ 600) (h : ∀ w2, Inv (t + 1) w2 → Lw p l e s m below meth c b E w2 874 [some (.ref b), some (.ref (E.1 7 0)), some (.ref (E.1 8 0)), some (.int (nI i0))] []) : Lw p l e s m below meth c b E w 765 [some (.ref b), some (.ref (E.1 7 0)), some (.ref (E.1 8 0)), some (.int (nI i0))] [] := by
  obtain ⟨r, w1, w2, h1, h2, h3⟩ := oq_cheapest H ht (xs (Int32.toNatClampNeg (nI i0 + 1))) (xs (Int32.toNatClampNeg (nI i0 + 2)))
  refine lq_aload_n C0 dL_law_765 rfl rfl ?_
  refine lq_aload_n C0 dL_law_766 rfl rfl ?_
  refine lq_iload_n C0 dL_law_767 rfl rfl ?_
  refine lq_iconst (v := 1) C0 dL_law_768 (by decide) ?_
  refine lq_iadd C0 dL_law_769 ?_
  refine lq_sld C0 dL_law_770 (hin 1 (by omega)) ?_
  refine lq_aload_n C0 dL_law_771 rfl rfl ?_
  refine lq_iload_n C0 dL_law_772 rfl rfl ?_
  refine lq_iconst (v := 2) C0 dL_law_773 (by decide) ?_
  refine lq_iadd C0 dL_law_774 ?_
  refine lq_sld C0 dL_law_775 (hin 2 (by omega)) ?_
  refine lq_call (As := [.int (xs (Int32.toNatClampNeg (nI i0 + 1))), .int (xs (Int32.toNatClampNeg (nI i0 + 2)))]) C0 dL_law_776 (t_X9_cheapest w (xs (Int32.toNatClampNeg (nI i0 + 1))) (xs (Int32.toNatClampNeg (nI i0 + 2))) _ h1) ce_7_0 rfl cy_X9_cheapest tb_765 rfl rfl ⟨⟨rfl, rfl⟩, (Nat.le_of_ble_eq_true rfl), (Nat.le_of_ble_eq_true rfl)⟩ (Nat.le_of_ble_eq_true rfl) ?_
  refine lq_aload_n C0 dL_law_779 rfl rfl ?_
  refine lq_aload_n C0 dL_law_780 rfl rfl ?_
  refine lq_iload_n C0 dL_law_781 rfl rfl ?_
  refine lq_iconst (v := 1) C0 dL_law_782 (by decide) ?_
  refine lq_iadd C0 dL_law_783 ?_
  refine lq_sld C0 dL_law_784 (hin 1 (by omega)) ?_
  refine lq_aload_n C0 dL_law_785 rfl rfl ?_
  refine lq_iload_n C0 dL_law_786 rfl rfl ?_
  refine lq_iconst (v := 2) C0 dL_law_787 (by decide) ?_
  refine lq_iadd C0 dL_law_788 ?_
  refine lq_sld C0 dL_law_789 (hin 2 (by omega)) ?_
  refine lq_call (As := [.int (xs (Int32.toNatClampNeg (nI i0 + 1))), .int (xs (Int32.toNatClampNeg (nI i0 + 2)))]) C0 dL_law_790 (t_X10_cheapest w1 (xs (Int32.toNatClampNeg (nI i0 + 1))) (xs (Int32.toNatClampNeg (nI i0 + 2))) _ h2) ce_8_0 rfl cy_X10_cheapest tb_1211 rfl rfl ⟨⟨rfl, rfl⟩, (Nat.le_of_ble_eq_true rfl), (Nat.le_of_ble_eq_true rfl)⟩ (Nat.le_of_ble_eq_true rfl) ?_
  exact lq_eq_T (tgt := 874) C0 dL_law_793 (by decide) rfl (h w2 h3)
set_option maxHeartbeats 1000000 in
theorem lc_22 {p : Program} {l : Launch} {e : Env} {s : State} {m : MethodId} {below : List Frame} {meth : Method} {c : Code} {b L : Nat} {xs : Nat → Int32} {E : En} {w : Wd}  {t i0 : Nat} (C0 : Lc E p s m meth c b L xs) (hin : ∀ k, k ≤ 5 → vp_in (nI i0 + nI k) L) (H : Inv t w) (ht : t + 1 ≤ 600) (h : ∀ w2, Inv (t + 1) w2 → Lw p l e s m below meth c b E w2 874 [some (.ref b), some (.ref (E.1 7 0)), some (.ref (E.1 8 0)), some (.int (nI i0))] []) : Lw p l e s m below meth c b E w 798 [some (.ref b), some (.ref (E.1 7 0)), some (.ref (E.1 8 0)), some (.int (nI i0))] [] := by
  obtain ⟨r, w1, w2, h1, h2, h3⟩ := oq_type H ht (xs (Int32.toNatClampNeg (nI i0 + 1)))
  refine lq_aload_n C0 dL_law_798 rfl rfl ?_
  refine lq_aload_n C0 dL_law_799 rfl rfl ?_
  refine lq_iload_n C0 dL_law_800 rfl rfl ?_
  refine lq_iconst (v := 1) C0 dL_law_801 (by decide) ?_
  refine lq_iadd C0 dL_law_802 ?_
  refine lq_sld C0 dL_law_803 (hin 1 (by omega)) ?_
  refine lq_call (As := [.int (xs (Int32.toNatClampNeg (nI i0 + 1)))]) C0 dL_law_804 (t_X9_type w (xs (Int32.toNatClampNeg (nI i0 + 1))) _ h1) ce_7_0 rfl cy_X9_type tb_808 rfl rfl ⟨⟨rfl, rfl⟩, (Nat.le_of_ble_eq_true rfl), (Nat.le_of_ble_eq_true rfl)⟩ (Nat.le_of_ble_eq_true rfl) ?_
  refine lq_aload_n C0 dL_law_807 rfl rfl ?_
  refine lq_aload_n C0 dL_law_808 rfl rfl ?_
  refine lq_iload_n C0 dL_law_809 rfl rfl ?_
  refine lq_iconst (v := 1) C0 dL_law_810 (by decide) ?_
  refine lq_iadd C0 dL_law_811 ?_
  refine lq_sld C0 dL_law_812 (hin 1 (by omega)) ?_
  refine lq_call (As := [.int (xs (Int32.toNatClampNeg (nI i0 + 1)))]) C0 dL_law_813 (t_X10_type w1 (xs (Int32.toNatClampNeg (nI i0 + 1))) _ h2) ce_8_0 rfl cy_X10_type tb_1219 rfl rfl ⟨⟨rfl, rfl⟩, (Nat.le_of_ble_eq_true rfl), (Nat.le_of_ble_eq_true rfl)⟩ (Nat.le_of_ble_eq_true rfl) ?_
  exact lq_eq_T (tgt := 874) C0 dL_law_816 (by decide) rfl (h w2 h3)
set_option maxHeartbeats 1000000 in
theorem lc_23 {p : Program} {l : Launch} {e : Env} {s : State} {m : MethodId} {below : List Frame} {meth : Method} {c : Code} {b L : Nat} {xs : Nat → Int32} {E : En} {w : Wd}  {t i0 : Nat} (C0 : Lc E p s m meth c b L xs) (hin : ∀ k, k ≤ 5 → vp_in (nI i0 + nI k) L) (H : Inv t w) (ht : t + 1 ≤ 600) (h : ∀ w2, Inv (t + 1) w2 → Lw p l e s m below meth c b E w2 874 [some (.ref b), some (.ref (E.1 7 0)), some (.ref (E.1 8 0)), some (.int (nI i0))] []) : Lw p l e s m below meth c b E w 821 [some (.ref b), some (.ref (E.1 7 0)), some (.ref (E.1 8 0)), some (.int (nI i0))] [] := by
  obtain ⟨r, w1, w2, h1, h2, h3⟩ := oq_clear H ht 
  refine lq_aload_n C0 dL_law_821 rfl rfl ?_
  refine lq_call (As := []) C0 dL_law_822 (t_X9_clear w  _ h1) ce_7_0 rfl cy_X9_clear tb_820 rfl rfl ⟨⟨rfl, rfl⟩, (Nat.le_of_ble_eq_true rfl), (Nat.le_of_ble_eq_true rfl)⟩ (Nat.le_of_ble_eq_true rfl) ?_
  refine lq_aload_n C0 dL_law_825 rfl rfl ?_
  refine lq_call (As := []) C0 dL_law_826 (t_X10_clear w1  _ h2) ce_8_0 rfl cy_X10_clear tb_1223 rfl rfl ⟨⟨rfl, rfl⟩, (Nat.le_of_ble_eq_true rfl), (Nat.le_of_ble_eq_true rfl)⟩ (Nat.le_of_ble_eq_true rfl) ?_
  exact lq_eq_T (tgt := 874) C0 dL_law_829 (by decide) rfl (h w2 h3)
set_option maxHeartbeats 1000000 in
theorem lc_24 {p : Program} {l : Launch} {e : Env} {s : State} {m : MethodId} {below : List Frame} {meth : Method} {c : Code} {b L : Nat} {xs : Nat → Int32} {E : En} {w : Wd}  {t i0 : Nat} (C0 : Lc E p s m meth c b L xs) (hin : ∀ k, k ≤ 5 → vp_in (nI i0 + nI k) L) (H : Inv t w) (ht : t + 1 ≤ 600) (h : ∀ w2, Inv (t + 1) w2 → Lw p l e s m below meth c b E w2 874 [some (.ref b), some (.ref (E.1 7 0)), some (.ref (E.1 8 0)), some (.int (nI i0))] []) : Lw p l e s m below meth c b E w 834 [some (.ref b), some (.ref (E.1 7 0)), some (.ref (E.1 8 0)), some (.int (nI i0))] [] := by
  obtain ⟨r, w1, w2, h1, h2, h3⟩ := oq_run H ht 
  refine lq_aload_n C0 dL_law_834 rfl rfl ?_
  refine lq_call (As := []) C0 dL_law_835 (t_X9_run w  _ h1) ce_7_0 rfl cy_X9_run tb_828 rfl rfl ⟨⟨rfl, rfl⟩, (Nat.le_of_ble_eq_true rfl), (Nat.le_of_ble_eq_true rfl)⟩ (Nat.le_of_ble_eq_true rfl) ?_
  refine lq_aload_n C0 dL_law_838 rfl rfl ?_
  refine lq_call (As := []) C0 dL_law_839 (t_X10_run w1  _ h2) ce_8_0 rfl cy_X10_run tb_1227 rfl rfl ⟨⟨rfl, rfl⟩, (Nat.le_of_ble_eq_true rfl), (Nat.le_of_ble_eq_true rfl)⟩ (Nat.le_of_ble_eq_true rfl) ?_
  exact lq_eq_T (tgt := 874) C0 dL_law_842 (by decide) rfl (h w2 h3)
set_option maxHeartbeats 1000000 in
theorem lc_25 {p : Program} {l : Launch} {e : Env} {s : State} {m : MethodId} {below : List Frame} {meth : Method} {c : Code} {b L : Nat} {xs : Nat → Int32} {E : En} {w : Wd}  {t i0 : Nat} (C0 : Lc E p s m meth c b L xs) (hin : ∀ k, k ≤ 5 → vp_in (nI i0 + nI k) L) (H : Inv t w) (ht : t + 1 ≤ 600) (h : ∀ w2, Inv (t + 1) w2 → Lw p l e s m below meth c b E w2 874 [some (.ref b), some (.ref (E.1 7 0)), some (.ref (E.1 8 0)), some (.int (nI i0))] []) : Lw p l e s m below meth c b E w 847 [some (.ref b), some (.ref (E.1 7 0)), some (.ref (E.1 8 0)), some (.int (nI i0))] [] := by
  obtain ⟨r, w1, w2, h1, h2, h3⟩ := oq_undo H ht 
  refine lq_aload_n C0 dL_law_847 rfl rfl ?_
  refine lq_call (As := []) C0 dL_law_848 (t_X9_undo w  _ h1) ce_7_0 rfl cy_X9_undo tb_905 rfl rfl ⟨⟨rfl, rfl⟩, (Nat.le_of_ble_eq_true rfl), (Nat.le_of_ble_eq_true rfl)⟩ (Nat.le_of_ble_eq_true rfl) ?_
  refine lq_aload_n C0 dL_law_851 rfl rfl ?_
  refine lq_call (As := []) C0 dL_law_852 (t_X10_undo w1  _ h2) ce_8_0 rfl cy_X10_undo tb_1259 rfl rfl ⟨⟨rfl, rfl⟩, (Nat.le_of_ble_eq_true rfl), (Nat.le_of_ble_eq_true rfl)⟩ (Nat.le_of_ble_eq_true rfl) ?_
  exact lq_eq_T (tgt := 874) C0 dL_law_855 (by decide) rfl (h w2 h3)
set_option maxHeartbeats 1000000 in
theorem lc_26 {p : Program} {l : Launch} {e : Env} {s : State} {m : MethodId} {below : List Frame} {meth : Method} {c : Code} {b L : Nat} {xs : Nat → Int32} {E : En} {w : Wd}  {t i0 : Nat} (C0 : Lc E p s m meth c b L xs) (hin : ∀ k, k ≤ 5 → vp_in (nI i0 + nI k) L) (H : Inv t w) (ht : t + 1 ≤ 600) (h : ∀ w2, Inv (t + 1) w2 → Lw p l e s m below meth c b E w2 874 [some (.ref b), some (.ref (E.1 7 0)), some (.ref (E.1 8 0)), some (.int (nI i0))] []) : Lw p l e s m below meth c b E w 860 [some (.ref b), some (.ref (E.1 7 0)), some (.ref (E.1 8 0)), some (.int (nI i0))] [] := by
  obtain ⟨r, w1, w2, h1, h2, h3⟩ := oq_fingerprint H ht 
  refine lq_aload_n C0 dL_law_860 rfl rfl ?_
  refine lq_call (As := []) C0 dL_law_861 (t_X9_fingerprint w  _ h1) ce_7_0 rfl cy_X9_fingerprint tb_917 rfl rfl ⟨⟨rfl, rfl⟩, (Nat.le_of_ble_eq_true rfl), (Nat.le_of_ble_eq_true rfl)⟩ (Nat.le_of_ble_eq_true rfl) ?_
  refine lq_aload_n C0 dL_law_864 rfl rfl ?_
  refine lq_call (As := []) C0 dL_law_865 (t_X10_fingerprint w1  _ h2) ce_8_0 rfl cy_X10_fingerprint tb_1263 rfl rfl ⟨⟨rfl, rfl⟩, (Nat.le_of_ble_eq_true rfl), (Nat.le_of_ble_eq_true rfl)⟩ (Nat.le_of_ble_eq_true rfl) ?_
  refine lq_lcmp C0 dL_law_868 ?_
  exact lq_if0_T (tgt := 874) C0 dL_law_869 (by decide) (lg_self r) (h w2 h3)
