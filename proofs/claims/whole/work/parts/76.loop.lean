theorem and31 (x : Int32) : ∃ k, k < 32 ∧ x &&& 31 = nI k := by
  have e : (x &&& 31).toBitVec = x.toBitVec &&& 31#32 := rfl
  have hle : (x.toBitVec &&& 31#32).toNat ≤ 31 := by
    rw [BitVec.toNat_and]
    exact Nat.and_le_right
  refine ⟨(x.toBitVec &&& 31#32).toNat, by omega, ?_⟩
  apply Int32.toBitVec_inj.mp
  rw [e]
  show _ = BitVec.ofNat 32 _
  simp
theorem law_loop {p : Program} {l : Launch} {e : Env} {s : State} {m : MethodId} {below : List Frame} {meth : Method} {c : Code} {b L : Nat} {xs : Nat → Int32} {E : En} (hL : L ≤ 3072) (C0 : Lc E p s m meth c b L xs) : ∀ (n i0 t : Nat) (w : Wd), L + 6 ≤ i0 + 6 * n → i0 ≤ L → 6 * t ≤ i0 → Inv t w → Lw p l e s m below meth c b E w 18 [some (.ref b), some (.ref (E.1 7 0)), some (.ref (E.1 8 0)), some (.int (nI i0))] [] := by
  intro n
  induction n with
  | zero => intro i0 t w h1 h2; omega
  | succ n ih =>
    intro i0 t w h1 h2 h3 H
    have ht : t + 1 ≤ 600 := by omega
    refine lq_iload_n C0 dL_law_18 rfl rfl ?_
    refine lq_aload_n C0 dL_law_19 rfl rfl ?_
    refine lq_slen C0 dL_law_20 ?_
    refine lq_bipush (v := 6) C0 dL_law_21 (by decide) ?_
    refine lq_isub C0 dL_law_23 ?_
    by_cases hc : i0 + 6 ≤ L
    rotate_left
    · refine lq_gt_T (tgt := 880) C0 dL_law_24 (by decide) ?_ ?_
      · show nI L - nI 6 < nI i0
        rw [Int32.lt_iff_toInt_lt, Int32.toInt_sub, nI_toInt (by omega), nI_toInt (by omega), nI_toInt (by omega), Int.bmod_eq_of_le (by omega) (by omega)]
        omega
      refine lq_iconst (v := 1) C0 dL_law_880 (by decide) ?_
      exact lq_end C0 dL_law_881
    refine lq_gt_F (tgt := 880) C0 dL_law_24 (by decide) ?_ ?_
    · show ¬ nI L - nI 6 < nI i0
      rw [nI_sub (by omega)]
      exact nI_nlt (by omega) (by omega)
    have hin : ∀ k, k ≤ 5 → vp_in (nI i0 + nI k) L := fun k hk => by
      rw [nI_add]
      exact vp_in_nI (by omega) (by omega)
    have next : ∀ w2, Inv (t + 1) w2 → Lw p l e s m below meth c b E w2 874 [some (.ref b), some (.ref (E.1 7 0)), some (.ref (E.1 8 0)), some (.int (nI i0))] [] := fun w2 H2 => by
      refine lq_iinc (v := 6) (lv' := [some (.ref b), some (.ref (E.1 7 0)), some (.ref (E.1 8 0)), some (.int (nI (i0 + 6)))]) C0 dL_law_874 rfl (by decide) (by decide) rfl (by show [_, _, _, some (Value.int (nI i0 + nI 6))] = _; rw [nI_add]) ?_
      exact lq_goto (tgt := 18) C0 dL_law_877 (by decide) (ih (i0 + 6) (t + 1) w2 (by omega) (by omega) (by omega) H2)
    refine lq_aload_n C0 dL_law_27 rfl rfl ?_
    refine lq_iload_n C0 dL_law_28 rfl rfl ?_
    refine lq_sld C0 dL_law_29 (vp_in_nI (by omega) (by omega)) ?_
    refine lq_bipush (v := 31) C0 dL_law_30 (by decide) ?_
    refine lq_iand C0 dL_law_32 ?_
    obtain ⟨k, hk, hz⟩ := and31 (xs (nI i0).toNatClampNeg)
    rw [hz]
    rcases (show k = 0 ∨ k = 1 ∨ k = 2 ∨ k = 3 ∨ k = 4 ∨ k = 5 ∨ k = 6 ∨ k = 7 ∨ k = 8 ∨ k = 9 ∨ k = 10 ∨ k = 11 ∨ k = 12 ∨ k = 13 ∨ k = 14 ∨ k = 15 ∨ k = 16 ∨ k = 17 ∨ k = 18 ∨ k = 19 ∨ k = 20 ∨ k = 21 ∨ k = 22 ∨ k = 23 ∨ k = 24 ∨ k = 25 ∨ k = 26 ∨ 27 ≤ k by omega) with rfl | rfl | rfl | rfl | rfl | rfl | rfl | rfl | rfl | rfl | rfl | rfl | rfl | rfl | rfl | rfl | rfl | rfl | rfl | rfl | rfl | rfl | rfl | rfl | rfl | rfl | rfl | hk27
    · exact lq_tblIn (off := 123) (tgt := 156) C0 dL_law_33 (by decide) (by decide) (by decide +kernel) (by decide) (lc_0 C0 hin H ht next)
    · exact lq_tblIn (off := 136) (tgt := 169) C0 dL_law_33 (by decide) (by decide) (by decide +kernel) (by decide) (lc_1 C0 hin H ht next)
    · exact lq_tblIn (off := 185) (tgt := 218) C0 dL_law_33 (by decide) (by decide) (by decide +kernel) (by decide) (lc_2 C0 hin H ht next)
    · exact lq_tblIn (off := 218) (tgt := 251) C0 dL_law_33 (by decide) (by decide) (by decide +kernel) (by decide) (lc_3 C0 hin H ht next)
    · exact lq_tblIn (off := 241) (tgt := 274) C0 dL_law_33 (by decide) (by decide) (by decide +kernel) (by decide) (lc_4 C0 hin H ht next)
    · exact lq_tblIn (off := 304) (tgt := 337) C0 dL_law_33 (by decide) (by decide) (by decide +kernel) (by decide) (lc_5 C0 hin H ht next)
    · exact lq_tblIn (off := 347) (tgt := 380) C0 dL_law_33 (by decide) (by decide) (by decide +kernel) (by decide) (lc_6 C0 hin H ht next)
    · exact lq_tblIn (off := 380) (tgt := 413) C0 dL_law_33 (by decide) (by decide) (by decide +kernel) (by decide) (lc_7 C0 hin H ht next)
    · exact lq_tblIn (off := 403) (tgt := 436) C0 dL_law_33 (by decide) (by decide) (by decide +kernel) (by decide) (lc_8 C0 hin H ht next)
    · exact lq_tblIn (off := 436) (tgt := 469) C0 dL_law_33 (by decide) (by decide) (by decide +kernel) (by decide) (lc_9 C0 hin H ht next)
    · exact lq_tblIn (off := 459) (tgt := 492) C0 dL_law_33 (by decide) (by decide) (by decide +kernel) (by decide) (lc_10 C0 hin H ht next)
    · exact lq_tblIn (off := 482) (tgt := 515) C0 dL_law_33 (by decide) (by decide) (by decide +kernel) (by decide) (lc_11 C0 hin H ht next)
    · exact lq_tblIn (off := 495) (tgt := 528) C0 dL_law_33 (by decide) (by decide) (by decide +kernel) (by decide) (lc_12 C0 hin H ht next)
    · exact lq_tblIn (off := 508) (tgt := 541) C0 dL_law_33 (by decide) (by decide) (by decide +kernel) (by decide) (lc_13 C0 hin H ht next)
    · exact lq_tblIn (off := 541) (tgt := 574) C0 dL_law_33 (by decide) (by decide) (by decide +kernel) (by decide) (lc_14 C0 hin H ht next)
    · exact lq_tblIn (off := 584) (tgt := 617) C0 dL_law_33 (by decide) (by decide) (by decide +kernel) (by decide) (lc_15 C0 hin H ht next)
    · exact lq_tblIn (off := 597) (tgt := 630) C0 dL_law_33 (by decide) (by decide) (by decide +kernel) (by decide) (lc_16 C0 hin H ht next)
    · exact lq_tblIn (off := 630) (tgt := 663) C0 dL_law_33 (by decide) (by decide) (by decide +kernel) (by decide) (lc_17 C0 hin H ht next)
    · exact lq_tblIn (off := 653) (tgt := 686) C0 dL_law_33 (by decide) (by decide) (by decide +kernel) (by decide) (lc_18 C0 hin H ht next)
    · exact lq_tblIn (off := 686) (tgt := 719) C0 dL_law_33 (by decide) (by decide) (by decide +kernel) (by decide) (lc_19 C0 hin H ht next)
    · exact lq_tblIn (off := 699) (tgt := 732) C0 dL_law_33 (by decide) (by decide) (by decide +kernel) (by decide) (lc_20 C0 hin H ht next)
    · exact lq_tblIn (off := 732) (tgt := 765) C0 dL_law_33 (by decide) (by decide) (by decide +kernel) (by decide) (lc_21 C0 hin H ht next)
    · exact lq_tblIn (off := 765) (tgt := 798) C0 dL_law_33 (by decide) (by decide) (by decide +kernel) (by decide) (lc_22 C0 hin H ht next)
    · exact lq_tblIn (off := 788) (tgt := 821) C0 dL_law_33 (by decide) (by decide) (by decide +kernel) (by decide) (lc_23 C0 hin H ht next)
    · exact lq_tblIn (off := 801) (tgt := 834) C0 dL_law_33 (by decide) (by decide) (by decide +kernel) (by decide) (lc_24 C0 hin H ht next)
    · exact lq_tblIn (off := 814) (tgt := 847) C0 dL_law_33 (by decide) (by decide) (by decide +kernel) (by decide) (lc_25 C0 hin H ht next)
    · exact lq_tblIn (off := 827) (tgt := 860) C0 dL_law_33 (by decide) (by decide) (by decide +kernel) (by decide) (lc_26 C0 hin H ht next)
    · exact lq_tblOut (tgt := 874) C0 dL_law_33 (by decide) (Or.inr (by rw [nI_toInt (by omega)]; omega)) (next w (H.mono (Nat.le_succ t) ht))
