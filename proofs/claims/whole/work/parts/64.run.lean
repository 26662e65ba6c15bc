theorem run_loop {t C : Nat} (hC : C ≤ 27) : ∀ (m i fu fu' : Nat) (wc wm : Wd), C - i = m → i ≤ C → m < fu → m < fu' → NR t (wc 0) (wm 8 1) → wc 7 3 8 = nI C → wm 8 0 21 = nI C → (∀ j, j < C → Cmd j wc wm) → ∃ wc' wm', (∀ g c, g ≠ 0 → wc' g c = wc g c) ∧ (∀ g c, ¬ (g = 8 ∧ c = 1) → wm' g c = wm g c) ∧
    ((NR t (wc' 0) (wm' 8 1) ∧ h_X9_run_42 fu wc (nI C) (nI i) = ((f_X2_push 1 wc').bind fun q4 => (f_X7_empty q4.2).bind fun q5 => some (nI C, q5.2)) ∧ h_X10_run_28 fu' wm (nI i) = ((f_X10_keeps 2 wm').bind fun q3 => some ((wup q3.2 8 0 19 0) 8 0 21, wup q3.2 8 0 19 0))) ∨
     (∃ r, h_X9_run_42 fu wc (nI C) (nI i) = ((f_X4_copyFrom 0 1 wc').bind fun q7 => some (r, q7.2)) ∧ h_X10_run_28 fu' wm (nI i) = ((f_X10_copies 2 1 wm').bind fun q6 => some (r, q6.2)))) := by
  intro m
  induction m with
  | zero =>
    intro i fu fu' wc wm h1 h2 h3 h3' hN e8 e21 hj
    obtain ⟨fu, rfl⟩ : ∃ z, fu = z + 1 := ⟨fu - 1, by omega⟩
    obtain ⟨fu', rfl⟩ : ∃ z, fu' = z + 1 := ⟨fu' - 1, by omega⟩
    refine ⟨wc, wm, fun _ _ _ => rfl, fun _ _ _ => rfl, Or.inl ⟨hN, ?_, ?_⟩⟩
    · rw [h_X9_run_42, b_X9_run_42, if_pos (by rw [nI_leI (by omega) (by omega)]; omega)]
    · rw [h_X10_run_28, b_X10_run_28, if_pos (by rw [e21, nI_leI (by omega) (by omega)]; omega)]
      rfl
  | succ m ih =>
    intro i fu fu' wc wm h1 h2 h3 h3' hN e8 e21 hj
    obtain ⟨fu, rfl⟩ : ∃ z, fu = z + 1 := ⟨fu - 1, by omega⟩
    obtain ⟨fu', rfl⟩ : ∃ z, fu' = z + 1 := ⟨fu' - 1, by omega⟩
    obtain ⟨ok, wc1, wm1, g1, g2, g3, g4, g5, g6⟩ := carry_both hN (show i < C by omega) hC e8 (hj i (by omega))
    have hcl : h_X9_run_42 (fu + 1) wc (nI C) (nI i) = if ok = 0 then (f_X4_copyFrom 0 1 wc1).bind fun q7 => some ((-1000) - nI i, q7.2) else h_X9_run_42 fu wc1 (nI C) (nI (i + 1)) := by
      rw [h_X9_run_42, b_X9_run_42, if_neg (by rw [nI_leI (by omega) (by omega)]; omega), g2, Option.bind_some, nI_1]
    have hmo : h_X10_run_28 (fu' + 1) wm (nI i) = if ok = 0 then (f_X10_copies 2 1 wm1).bind fun q6 => some ((-1000) - nI i, q6.2) else h_X10_run_28 fu' wm1 (nI (i + 1)) := by
      rw [h_X10_run_28, b_X10_run_28, if_neg (by rw [e21, nI_leI (by omega) (by omega)]; omega), g3, Option.bind_some, nI_1]
    rcases g1 with rfl | rfl
    · refine ⟨wc1, wm1, g4, g5, Or.inr ⟨(-1000) - nI i, ?_, ?_⟩⟩
      · rw [hcl, if_pos (by rfl)]
      · rw [hmo, if_pos (by rfl)]
    · obtain ⟨wc', wm', k1, k2, k3⟩ := ih (i + 1) fu fu' wc1 wm1 (by omega) (by omega) (by omega) (by omega) (g6 rfl) (by rw [g4 7 3 (by omega)]; exact e8) (by rw [g5 8 0 (by omega)]; exact e21) (fun j hjC => (hj j hjC).keep (fun r _ => by rw [g4 7 r (by omega)]) (by rw [g5 8 15 (by omega)]) (fun k _ => by rw [g5 8 16 (by omega)]))
      refine ⟨wc', wm', fun g c h => (k1 g c h).trans (g4 g c h), fun g c h => (k2 g c h).trans (g5 g c h), ?_⟩
      rw [hcl, hmo, if_neg (by decide), if_neg (by decide)]
      exact k3
/-- what counts of a world, by its fields -/
theorem Inv.same2 {t : Nat} {w w' : Wd} (H : Inv t w) (hN : NR t (w' 0) (w' 8 1)) (hg : ∀ g, 2 ≤ g → g < 7 → w' g = w g) (h7 : ∀ c, c = 1 ∨ c = 4 ∨ c = 12 ∨ c = 13 ∨ c = 14 → w' 7 c = w 7 c) (h73 : w' 7 3 7 = w 7 3 7) (h8 : ∀ c, c = 3 ∨ c = 11 ∨ c = 12 ∨ c = 14 → w' 8 c = w 8 c) (h80 : ∀ i, i = 3 ∨ i = 15 ∨ i = 19 → w' 8 0 i = w 8 0 i) : Inv t w' := by
  obtain ⟨h1, h2, h3, h4, h5⟩ := H
  exact ⟨h1, hN, h3.congr (by rw [h7 1 (by omega)]) (by rw [h7 1 (by omega)]) (h80 3 (by omega)) hg (h8 3 (by omega)), h4.congr h73 (h80 19 (by omega)) (h7 4 (by omega)) (h8 14 (by omega)), h5.congr (by rw [h7 12 (by omega)]) (h80 15 (by omega)) (h7 13 (by omega)) (h7 14 (by omega)) (h8 11 (by omega)) (h8 12 (by omega))⟩
theorem NEq.trans' {a b c : Nat → Nat → Int32} (h : NEq a b) (k : NEq b c) : NEq a c := fun x i r => (h x i r).trans (k x i r)
/-- the commands of a text, and what follows -/
theorem run_fin {t C : Nat} {w wcB wm : Wd} (H : Inv t w) (hC : C ≤ 27) (b0 : ∀ g c, g ≠ 1 → g ≠ 7 → wcB g c = w g c) (b7 : ∀ r, (r < 3 ∨ r = 4 ∨ 11 ≤ r) → wcB 7 r = w 7 r) (b737 : wcB 7 3 7 = w 7 3 7) (b1 : NEq (wcB 1) (w 0)) (b738 : wcB 7 3 8 = nI C) (m21 : wm 8 0 21 = nI C) (mC : ∀ j, j < C → Cmd j wcB wm) (m1 : wm 8 1 = w 8 1) (m2 : ∀ j, j < 640 → wm 8 2 j = w 8 1 j) (m8 : ∀ c, 3 ≤ c → c < 15 → wm 8 c = w 8 c) (m80 : ∀ i, i ≠ 20 → i ≠ 21 → wm 8 0 i = w 8 0 i) :
    ∃ r w1 w2, h_X9_run_42 FU wcB (nI C) 0 = some (r, w1) ∧ h_X10_run_28 FU wm 0 = some (r, w2) ∧ (∀ c, w1 8 c = w 8 c) ∧ ((∀ g c, g ≠ 8 → wm g c = w1 g c) → Inv t w2) := by
  obtain ⟨ht, hN, hH, hT, hA⟩ := id H
  obtain ⟨wcE, wmE, f1, f2, hd⟩ := run_loop (t := t) hC C 0 FU FU wcB wm rfl (by omega) (by rw [FU_eq]; omega) (by rw [FU_eq]; omega) (by rw [m1, show wcB 0 = w 0 from funext fun c => b0 0 c (by omega) (by omega)]; exact hN) b738 m21 mC
  have e71 : wcE 7 1 = w 7 1 := (f1 7 1 (by omega)).trans (b7 1 (by omega))
  have eE8 : ∀ c, wcE 8 c = w 8 c := fun c => (f1 8 c (by omega)).trans (b0 8 c (by omega) (by omega))
  have eEg : ∀ g, 2 ≤ g → g < 7 → wcE g = w g := fun g h1 h2 => funext fun c => (f1 g c (by omega)).trans (b0 g c (by omega) (by omega))
  have eE1 : NEq (wcE 1) (w 0) := by rw [show wcE 1 = wcB 1 from funext fun c => f1 1 c (by omega)]; exact b1
  have nE : NR t (wcE 1) (w 8 1) := hN.congr eE1 (fun j _ => rfl)
  have k8 : ∀ c, 3 ≤ c → c < 15 → wmE 8 c = w 8 c := fun c h1 h2 => (f2 8 c (by omega)).trans (m8 c h1 h2)
  have k80 : ∀ i, i ≠ 20 → i ≠ 21 → wmE 8 0 i = w 8 0 i := fun i h1 h2 => by rw [f2 8 0 (by omega)]; exact m80 i h1 h2
  have k2 : ∀ j, j < 640 → wmE 8 2 j = w 8 1 j := fun j hj => by rw [f2 8 2 (by omega)]; exact m2 j hj
  rcases hd with ⟨nN, h1, h2⟩ | ⟨r, h1, h2⟩
  · obtain ⟨F, C5, hF, hC5, hh1, hh2, hh3, hh4⟩ := id hH
    obtain ⟨w1p, p1, p2⟩ := push_spec (n := 1) (w := wcE) (by omega) hF hC5 (by rw [e71]; exact hh1) (by rw [e71]; exact hh2)
    obtain ⟨w2k, v1, v2⟩ := kept_spec (c2 := 2) (w := wmE) (by omega) (by omega) hC5 (by rw [k80 3 (by omega) (by omega)]; exact hh3)
    have e21 : (wup w2k 8 0 19 0) 8 0 21 = nI C := by rw [wup_at, if_neg (by omega), v2.2.1 21 (by omega), f2 8 0 (by omega)]; exact m21
    refine ⟨nI C, wup w1p 7 3 7 0, wup w2k 8 0 19 0, ?_, ?_, fun c => ?_, fun hwm => ?_⟩
    · rw [show (0 : Int32) = nI 0 from rfl, h1, p1, Option.bind_some]
      dsimp only
      rw [f_X7_empty, letw, Option.bind_some]; rfl
    · rw [show (0 : Int32) = nI 0 from rfl, h2, v1, Option.bind_some]
      dsimp only
      rw [e21]; rfl
    · rw [wup_row, if_neg (by omega), p2.1 8 c (by omega) (by omega), eE8]
    · have g2 : ∀ g c, g ≠ 8 → (wup w2k 8 0 19 0) g c = (wup w1p 7 3 7 0) g c := fun g c h => by
        rw [wup_row, if_neg (by omega), v2.1 g c (by omega), f2 g c (by omega), hwm g c h]
      have g1 : ∀ g c, ¬ (g = 7 ∧ c = 3) → (wup w1p 7 3 7 0) g c = w1p g c := fun g c h => by rw [wup_row, if_neg (by omega)]
      have g7 : ∀ c, 4 ≤ c → w1p 7 c = wcE 7 c := fun c h => p2.1 7 c (by omega) (by omega)
      have g8 : ∀ c, c ≠ 0 → c ≠ 3 → (wup w2k 8 0 19 0) 8 c = wmE 8 c := fun c h h' => by rw [wup_row, if_neg (by omega), v2.1 8 c (by omega)]
      refine ⟨ht, ?_, ?_, ?_, ?_⟩
      · rw [show (wup w2k 8 0 19 0) 0 = wcE 0 from funext fun c => by rw [g2 0 c (by omega), g1 0 c (by omega), p2.1 0 c (by omega) (by omega)], g8 1 (by omega) (by omega)]
        exact nN
      · have hHE : HR t wcE := hH.congr (by rw [e71]) (by rw [e71]) (by rw [eE8]) eEg (eE8 3)
        refine hist_push2 (vk := w 8 1) (n := 1) (c2 := 2) hHE nE p2 v2 (by rw [k80 3 (by omega) (by omega), eE8]) (by rw [k8 3 (by omega) (by omega), eE8]) k2 (fun g h1 h2 => ?_) ?_ ?_ ?_ ?_
        · funext c; rw [g2 g c (by omega), g1 g c (by omega)]
        · rw [g2 7 1 (by omega), g1 7 1 (by omega)]
        · rw [g2 7 1 (by omega), g1 7 1 (by omega)]
        · rw [wup_at, if_neg (by omega)]
        · rw [wup_row, if_neg (by omega)]
      · refine ⟨0, by omega, ?_, ?_, fun i hi => by omega⟩
        · rw [g2 7 3 (by omega), wup_at, if_pos ⟨rfl, rfl, rfl⟩]; rfl
        · rw [wup_at, if_pos ⟨rfl, rfl, rfl⟩]; rfl
      · have q7 : ∀ c, 11 ≤ c → (wup w2k 8 0 19 0) 7 c = w 7 c := fun c h => by
          rw [g2 7 c (by omega), g1 7 c (by omega), g7 c (by omega), f1 7 c (by omega), b7 c (by omega)]
        refine hA.congr ?_ ?_ ?_ ?_ ?_ ?_
        · rw [q7 12 (by omega)]
        · rw [wup_at, if_neg (by omega), v2.2.1 15 (by omega), k80 15 (by omega) (by omega)]
        · rw [q7 13 (by omega)]
        · rw [q7 14 (by omega)]
        · rw [g8 11 (by omega) (by omega), k8 11 (by omega) (by omega)]
        · rw [g8 12 (by omega) (by omega), k8 12 (by omega) (by omega)]
  · obtain ⟨w1, c1, c2, c3⟩ := copy_spec (n := 0) (n2 := 1) wcE (by omega)
    refine ⟨r, w1, wr wmE 8 1 (fun j => if j < 640 then wmE 8 2 j else wmE 8 1 j), ?_, ?_, fun c => ?_, fun hwm => ?_⟩
    · rw [show (0 : Int32) = nI 0 from rfl, h1, c1, Option.bind_some]
    · rw [show (0 : Int32) = nI 0 from rfl, h2, copies_spec 2 1 (by omega), Option.bind_some]
    · rw [c2 8 c (by omega), eE8]
    · have g2 : ∀ g c, g ≠ 8 → (wr wmE 8 1 (fun j => if j < 640 then wmE 8 2 j else wmE 8 1 j)) g c = w1 g c := fun g c h => by
        rw [wr_at, if_neg (by omega), f2 g c (by omega), hwm g c h]
      refine H.same2 ?_ (fun g h1 h2 => ?_) (fun c hc => ?_) ?_ (fun c hc => ?_) (fun i hi => ?_)
      · rw [show (wr wmE 8 1 (fun j => if j < 640 then wmE 8 2 j else wmE 8 1 j)) 0 = w1 0 from funext fun c => g2 0 c (by omega)]
        refine hN.congr (c3.trans' eE1) (fun j hj => ?_)
        rw [wr_at, if_pos ⟨rfl, rfl⟩, if_pos hj, k2 j hj]
      · funext c; rw [g2 g c (by omega), c2 g c (by omega), eEg g h1 h2]
      · rw [g2 7 c (by omega), c2 7 c (by omega), f1 7 c (by omega), b7 c (by omega)]
      · rw [g2 7 3 (by omega), c2 7 3 (by omega), f1 7 3 (by omega), b737]
      · rw [wr_at, if_neg (by omega), k8 c (by omega) (by omega)]
      · rw [wr_at, if_neg (by omega), k80 i (by omega) (by omega)]
theorem op_run {t : Nat} {w : Wd} (H : Inv t w) : ∃ r w1 w2, f_X9_run w = some (r, w1) ∧ f_X10_run w1 = some (r, w2) ∧ Inv t w2 := by
  obtain ⟨ht, hN, hH, ⟨L, l1, l2, l3, l4⟩, hA⟩ := id H
  have hex : ∀ i, ∃ c, i < L → 32 ≤ c ∧ c ≤ 126 ∧ w 7 4 i = nI c ∧ w 8 14 i = nI c := fun i => by
    by_cases hi : i < L
    · obtain ⟨c, q⟩ := l4 i hi
      exact ⟨c, fun _ => q⟩
    · exact ⟨0, fun h => absurd h hi⟩
  obtain ⟨ch, hch⟩ : ∃ ch : Nat → Nat, ∀ i, i < L → 32 ≤ ch i ∧ ch i ≤ 126 ∧ w 7 4 i = nI (ch i) ∧ w 8 14 i = nI (ch i) := ⟨fun i => (hex i).choose, fun i hi => (hex i).choose_spec hi⟩
  have ho : TxOK L ch := ⟨l1, fun i hi => ⟨(hch i hi).1, (hch i hi).2.1⟩⟩
  obtain ⟨ok, p, wcP, wmP0, g1, g2, g3, g4, g5, g6, g7, g8⟩ := parse_both (wc := w) (wm := w) ho l2 (fun i hi => (hch i hi).2.2.1) l3 (fun i hi => (hch i hi).2.2.2)
  have hp80 := g4.2.2.2
  have snd : ∀ wX : Wd, (∀ c, wX 8 c = w 8 c) → ∃ wmP, f_X10_readsText wX = some (nI ok, wmP) ∧ Ty L ch p wmP ∧ GM wX wmP ∧ (ok = 1 → ∃ C, C ≤ 27 ∧ wcP 7 3 8 = nI C ∧ wmP 8 0 21 = nI C ∧ ∀ j, j < C → Cmd j wcP wmP) := by
    intro wX hX
    obtain ⟨ok', p', wc', wmP, q1, q2, q3, q4, q5, q6, q7, q8⟩ := parse_both (wc := w) (wm := wX) ho l2 (fun i hi => (hch i hi).2.2.1) (by rw [hX]; exact l3) (fun i hi => by rw [hX]; exact (hch i hi).2.2.2)
    have hpair := Option.some.inj (q2.symm.trans g2)
    have hb1 : ok' < 2 ^ 31 := by rcases q1 with h | h <;> rw [h] <;> decide
    have hb2 : ok < 2 ^ 31 := by rcases g1 with h | h <;> rw [h] <;> decide
    have hok : ok' = ok := (nI_eq hb1 hb2).mp (congrArg Prod.fst hpair)
    have hwc : wc' = wcP := congrArg Prod.snd hpair
    subst hok
    subst hwc
    have hp' := q4.2.2.2
    have hpp : p' = p := (nI_eq (by omega) (by omega)).mp (q4.2.2.1.symm.trans g4.2.2.1)
    subst hpp
    exact ⟨wmP, q3, q5, q7, q8⟩
  have hP8 : ∀ c, wcP 8 c = w 8 c := fun c => g6.1 8 c (by omega)
  rcases g1 with h0 | h0
  · obtain ⟨wmP, s1, s2, s3, -⟩ := snd wcP hP8
    refine ⟨(-100) - nI p, wcP, wmP, ?_, ?_, ?_⟩
    · rw [f_X9_run, g2, Option.bind_some]
      dsimp only
      rw [if_pos (by rw [h0]; rfl), p_X7_errorPlace, g4.2.2.1]
    · rw [f_X10_run, s1, Option.bind_some]
      dsimp only
      rw [if_pos (by rw [h0]; rfl), s2.2.2.1]
    · refine H.same2 ?_ (fun g h1 h2 => ?_) (fun c hc => ?_) ?_ (fun c hc => ?_) (fun i hi => ?_)
      · rw [show wmP 0 = w 0 from funext fun c => by rw [s3.1 0 c (by omega), g6.1 0 c (by omega)], s3.2.1 1 (by omega), hP8]
        exact hN
      · funext c; rw [s3.1 g c (by omega), g6.1 g c (by omega)]
      · rw [s3.1 7 c (by omega), g6.2.1 c (by omega)]
      · rw [s3.1 7 3 (by omega), g6.2.2 7 (by omega) (by omega)]
      · rw [s3.2.1 c (by omega), hP8]
      · rw [s3.2.2 i (by omega) (by omega), hP8]
  · obtain ⟨wcB, c1, c2, c3⟩ := copy_spec (n := 1) (n2 := 0) wcP (by omega)
    obtain ⟨C, hC, e38, e21, hcm⟩ := g8 h0
    have fB : ∀ wX : Wd, (∀ c, wX 8 c = w 8 c) → ∃ wm, ((f_X10_readsText wX).bind fun q1 => if q1.1 = 0 then some ((-100) - ((q1.2) 8 0 20), q1.2) else (f_X10_copies 1 2 q1.2).bind fun q2 => h_X10_run_28 FU q2.2 0) = h_X10_run_28 FU wm 0 ∧ (∀ g c, g ≠ 8 → wm g c = wX g c) ∧ ∃ r w1 w2, h_X9_run_42 FU wcB (nI C) 0 = some (r, w1) ∧ h_X10_run_28 FU wm 0 = some (r, w2) ∧ (∀ c, w1 8 c = w 8 c) ∧ ((∀ g c, g ≠ 8 → wm g c = w1 g c) → Inv t w2) := by
      intro wX hX
      obtain ⟨wmP, s1, s2, s3, s4⟩ := snd wX hX
      obtain ⟨C', hC', e38', e21', hcm'⟩ := s4 h0
      have hCC : C' = C := (nI_eq (by omega) (by omega)).mp (e38'.symm.trans e38)
      subst hCC
      refine ⟨wr wmP 8 2 (fun j => if j < 640 then wmP 8 1 j else wmP 8 2 j), ?_, ?_, ?_⟩
      · rw [s1, Option.bind_some]
        dsimp only
        rw [if_neg (by rw [h0]; decide), copies_spec 1 2 (by omega), Option.bind_some]
      · intro g c h
        rw [wr_at, if_neg (by omega), s3.1 g c h]
      · refine run_fin H hC' (fun g c h1 h7 => ?_) (fun r h => ?_) ?_ ?_ ?_ ?_ (fun j hj => ?_) ?_ (fun j hj => ?_) (fun c h1 h2 => ?_) (fun i h1 h2 => ?_)
        · rw [c2 g c h1, g6.1 g c h7]
        · rw [c2 7 r (by omega), g6.2.1 r h]
        · rw [c2 7 3 (by omega), g6.2.2 7 (by omega) (by omega)]
        · rw [show w 0 = wcP 0 from funext fun c => (g6.1 0 c (by omega)).symm]; exact c3
        · rw [c2 7 3 (by omega)]; exact e38'
        · rw [wr_at, if_neg (by omega)]; exact e21'
        · exact (hcm' j hj).keep (fun r _ => by rw [c2 7 r (by omega)]) (by rw [wr_at, if_neg (by omega)]) (fun k _ => by rw [wr_at, if_neg (by omega)])
        · rw [wr_at, if_neg (by omega), s3.2.1 1 (by omega), hX]
        · rw [wr_at, if_pos ⟨rfl, rfl⟩, if_pos hj, s3.2.1 1 (by omega), hX]
        · rw [wr_at, if_neg (by omega), s3.2.1 c (by omega), hX]
        · rw [wr_at, if_neg (by omega), s3.2.2 i h1 h2, hX]
    obtain ⟨-, -, -, r, w1, -, a1, -, a3, -⟩ := fB w (fun _ => rfl)
    obtain ⟨wm, b1, b2, r', w1', w2, b3, b4, -, b5⟩ := fB w1 a3
    have hpair := Option.some.inj (b3.symm.trans a1)
    have hr : r' = r := congrArg Prod.fst hpair
    have hw : w1' = w1 := congrArg Prod.snd hpair
    subst hr
    subst hw
    refine ⟨r', w1', w2, ?_, ?_, b5 b2⟩
    · rw [f_X9_run, g2, Option.bind_some]
      dsimp only
      rw [if_neg (by rw [h0]; decide), c1, Option.bind_some]
      dsimp only
      rw [p_X7_commandCount, c2 7 3 (by omega), e38, leti]
      exact a1
    · rw [f_X10_run, b1]
      exact b4
