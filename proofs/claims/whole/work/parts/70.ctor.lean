/-! worlds that grow -/
theorem tb_78 : Cond.code objectInit ⟨#[0xb1]⟩ 1 none ∈ lw_tbl := List.mem_of_getElem? (i := 78) (by decide +kernel)
theorem tb_187 : Cond.arrayOver (.object RX4) ∈ lw_tbl := List.mem_of_getElem? (i := 187) (by decide +kernel)
theorem va_P_mem {D : va_G} {cl : List vw_C} {ws ws' : va_W} {H : Heap} (h : va_P D cl ws H) (hm : ∀ q ∈ ws', q ∈ ws) : va_P D cl ws' H := fun k q hk => by
  obtain ⟨i, hi⟩ := List.getElem?_of_mem (hm q (List.mem_of_getElem? hk))
  exact h i q hi
theorem va_D_left {A : Nat → Prop} {u v : va_W} (h : va_D A (u ++ v)) : va_D A u := by
  have hx : ∀ (i : Nat) (p : Nat × va_E), u[i]? = some p → (u ++ v)[i]? = some p := fun i p hp => by
    rw [List.getElem?_append_left (List.getElem?_eq_some_iff.mp hp).1]; exact hp
  exact ⟨fun i j p q hi hj e => h.1 i j p q (hx i p hi) (hx j q hj) e, fun k q hk => h.2 k q (hx k q hk)⟩
theorem at_right {u v : va_W} {i : Nat} {p : Nat × va_E} (hp : v[i]? = some p) : (u ++ v)[u.length + i]? = some p := by
  rw [List.getElem?_append_right (by omega), show u.length + i - u.length = i from by omega]; exact hp
theorem va_D_right {A : Nat → Prop} {u v : va_W} (h : va_D A (u ++ v)) : va_D A v :=
  ⟨fun i j p q hi hj e => by have := h.1 _ _ p q (at_right hi) (at_right hj) e; omega, fun k q hk => h.2 _ q (at_right hk)⟩
theorem va_D_dis {A : Nat → Prop} {u v : va_W} (h : va_D A (u ++ v)) (i j : Nat) (p q : Nat × va_E) (hi : u[i]? = some p) (hj : v[j]? = some q) : p.1 ≠ q.1 := by
  intro e
  have hl := (List.getElem?_eq_some_iff.mp hi).1
  have := h.1 i _ p q (by rw [List.getElem?_append_left hl]; exact hi) (at_right hj) e
  omega
theorem va_D_comm {A : Nat → Prop} {u v : va_W} (h : va_D A (u ++ v)) : va_D A (v ++ u) := va_D.app (va_D_right h) (va_D_left h) (fun i j p q hp hq e => va_D_dis h j i q p hq hp e.symm)
theorem va_P_comm {D : va_G} {cl : List vw_C} {u v : va_W} {H : Heap} (h : va_P D cl (u ++ v) H) : va_P D cl (v ++ u) H := va_P_mem h (fun q hq => by
  rcases List.mem_append.mp hq with h | h
  · exact List.mem_append_right _ h
  · exact List.mem_append_left _ h)
/-! contracts of constructors: the object, and what comes -/
def AH (h0 sz : Nat) : Nat → Prop := fun q => q = h0 ∨ sz ≤ q
def Wk0 (E : En) (h0 sz ci : Nat) (fs : List Value) (U : State) : Prop := U.heap.size = sz ∧ va_P E.2.1 vwCl [(h0, .inr (ci, fs))] U.heap ∧ va_K E.2.1 vwCl (tyl E) U ∧ NWs U ∧ va_AO RX4 U
def Qn (E : En) (h0 sz : Nat) (Post : va_W → Prop) : Array Value → State → Outcome → State → Prop := fun _ st oc t => oc = .returned none ∧ (∃ ws, Post ws ∧ va_P E.2.1 vwCl ws t.heap ∧ va_D (AH h0 sz) ws) ∧ va_K E.2.1 vwCl (tyl E) t ∧ va_F (AH h0 sz) st t
def rmc (h mc ms : Nat) : Room := { frames := h, cells := mc, slots := ms, locals := 40 * h }
def Nt (l : Launch) (E : En) (y : MethodName) (cc : ByteArray) (n h mc ms ci : Nat) (fs : List Value) (Post : Nat → va_W → Prop) : Prop := ∀ h0 sz, Met l y (.code y cc n none :: gwl) (rmc h mc ms) (va_Pc [.ref h0] (Wk0 E h0 sz ci fs)) (Qn E h0 sz (Post h0)) mc ms (AH h0 sz)
theorem Wk0.blind {E : En} {h0 sz ci : Nat} {fs as : List Value} : FrameBlind (va_Pc as (Wk0 E h0 sz ci fs)) := by
  intro a U g mk q
  obtain ⟨q0, qs, qP, qK, qN, qA⟩ := q
  exact ⟨q0, qs, qP, va_K.moved (u := U) (U := U.calling g mk a) (Vm.Alike.refl U.vm) qK, fun w hw hn => va_Nw.same (u := U) (U := U.calling g mk a) (isNest_on hn) rfl (qN w hw hn), va_AO.moved (u := U) (U := U.calling g mk a) (Vm.Alike.refl U.vm) qA⟩
def Kx (E : En) (cc : ByteArray) (nL : Nat) (own : String) (p : Program) (s : State) (m : MethodId) (args : Array Value) (meth : Method) (c : Code) : Prop :=
  p.tables.exec = Jvm.exec ∧ c.code = cc ∧ c.maxLocals = nL ∧ s.vm.findClass own = some m.cls ∧ (∀ w ∈ gwl, w.before args s = true) ∧ NWs s ∧ meth.sig.returnType = none ∧ meth.locks = false ∧ va_K E.2.1 vwCl (tyl E) s ∧ va_AO RX4 s ∧ meth.name = "<init>"
def Gk (l : Launch) (E : En) (cc : ByteArray) (nL : Nat) (own : String) (R : Room) (h0 sz : Nat) (Post : va_W → Prop) (mc ms : Nat) (ws : va_W) (cells slots pc : Nat) (lv : List (Option Value)) (st : List Value) : Prop :=
  ∀ (p : Program) (e : Env) (s : State) (m : MethodId) (args : Array Value) (below : List Frame) (meth : Method) (c : Code) (H : Heap) (locs : List Loc) (ls : Array Slot), Kx E cc nL own p s m args meth c → s.heap.size = sz → va_P E.2.1 vwCl ws H → va_D (AH h0 sz) ws → va_S (AH h0 sz) s.heap H locs → lh ls nL lv →
    W p l e R s m args below meth c H locs cells slots (MQ below (Qn E h0 sz Post) args s mc ms (AH h0 sz)) (F0 m pc ls st)
section GK
variable {l : Launch} {E : En} {cc : ByteArray} {nL : Nat} {own : String} {R : Room} {h0 sz : Nat} {Post : va_W → Prop} {mc ms : Nat} {ws wr : va_W} {cells slots pc : Nat} {lv : List (Option Value)} {st : List Value}
theorem gk_iconst {n : Int} {v : Int32} (hd : decode cc pc = .ok (.iconst n, 1)) (hv : Int32.ofInt n = v) (h : Gk l E cc nL own R h0 sz Post mc ms ws cells slots (pc + 1) lv (.int v :: st)) : Gk l E cc nL own R h0 sz Post mc ms ws cells slots pc lv st := by
  intro p e s m args below meth c H locs ls hC hz hP hD hS hl
  exact lv_iconst hC.1 hC.2.1 hd hv (h p e s m args below meth c H locs ls hC hz hP hD hS hl)
theorem gk_bipush {n : Int} {v : Int32} (hd : decode cc pc = .ok (.bipush n, 2)) (hv : (Int8.ofInt n).toInt32 = v) (h : Gk l E cc nL own R h0 sz Post mc ms ws cells slots (pc + 2) lv (.int v :: st)) : Gk l E cc nL own R h0 sz Post mc ms ws cells slots pc lv st := by
  intro p e s m args below meth c H locs ls hC hz hP hD hS hl
  exact lv_bipush hC.1 hC.2.1 hd hv (h p e s m args below meth c H locs ls hC hz hP hD hS hl)
theorem gk_sipush {n : Int} {v : Int32} (hd : decode cc pc = .ok (.sipush n, 3)) (hv : (Int16.ofInt n).toInt32 = v) (h : Gk l E cc nL own R h0 sz Post mc ms ws cells slots (pc + 3) lv (.int v :: st)) : Gk l E cc nL own R h0 sz Post mc ms ws cells slots pc lv st := by
  intro p e s m args below meth c H locs ls hC hz hP hD hS hl
  exact lv_sipush hC.1 hC.2.1 hd hv (h p e s m args below meth c H locs ls hC hz hP hD hS hl)
theorem gk_ldc {i : Nat} {v : Int32} (hd : decode cc pc = .ok (.ldc i, 2)) (hc : Cond.constant own i v ∈ lw_tbl) (h : Gk l E cc nL own R h0 sz Post mc ms ws cells slots (pc + 2) lv (.int v :: st)) : Gk l E cc nL own R h0 sz Post mc ms ws cells slots pc lv st := by
  intro p e s m args below meth c H locs ls hC hz hP hD hS hl
  exact lv_ldc hC.1 hC.2.1 hC.2.2.2.1 (hC.2.2.2.2.1 _ (gw_in hc rfl)) hd (h p e s m args below meth c H locs ls hC hz hP hD hS hl)
theorem gk_aload_n {k : Fin 4} {i x : Nat} (hd : decode cc pc = .ok (.aload_n k, 1)) (hi : (k : Nat) = i) (hx : lv[i]? = some (some (.ref x))) (h : Gk l E cc nL own R h0 sz Post mc ms ws cells slots (pc + 1) lv (.ref x :: st)) : Gk l E cc nL own R h0 sz Post mc ms ws cells slots pc lv st := by
  intro p e s m args below meth c H locs ls hC hz hP hD hS hl
  exact lv_aload_n hC.1 hC.2.1 hd hi (hl.2.2 i _ hx) (h p e s m args below meth c H locs ls hC hz hP hD hS hl)
theorem gk_iload_n {k : Fin 4} {i : Nat} {x : Int32} (hd : decode cc pc = .ok (.iload_n k, 1)) (hi : (k : Nat) = i) (hx : lv[i]? = some (some (.int x))) (h : Gk l E cc nL own R h0 sz Post mc ms ws cells slots (pc + 1) lv (.int x :: st)) : Gk l E cc nL own R h0 sz Post mc ms ws cells slots pc lv st := by
  intro p e s m args below meth c H locs ls hC hz hP hD hS hl
  exact lv_iload_n hC.1 hC.2.1 hd hi (hl.2.2 i _ hx) (h p e s m args below meth c H locs ls hC hz hP hD hS hl)
theorem gk_istore_n {k : Fin 4} {i : Nat} {x : Int32} {lv' : List (Option Value)} (hd : decode cc pc = .ok (.istore_n k, 1)) (hi : (k : Nat) = i) (hn : i < nL) (hok : lok lv i = true) (hlv : (lv.set i (some (.int x))) = lv') (h : Gk l E cc nL own R h0 sz Post mc ms ws cells slots (pc + 1) lv' st) : Gk l E cc nL own R h0 sz Post mc ms ws cells slots pc lv (.int x :: st) := by
  intro p e s m args below meth c H locs ls hC hz hP hD hS hl
  subst hlv
  exact lv_istore_n hC.1 hC.2.1 hd hi (lh_has hl) hn rfl (fun ls hl2 => h p e s m args below meth c H locs ls hC hz hP hD hS (lh_store1 hok hl2))
theorem gk_iinc {i : Nat} {n : Int} {x v : Int32} {lv' : List (Option Value)} (hd : decode cc pc = .ok (.iinc i n, 3)) (hx : lv[i]? = some (some (.int x))) (hv : Int32.ofInt n = v) (hn : i < nL) (hok : lok lv i = true) (hlv : (lv.set i (some (.int (x + v)))) = lv') (h : Gk l E cc nL own R h0 sz Post mc ms ws cells slots (pc + 3) lv' st) : Gk l E cc nL own R h0 sz Post mc ms ws cells slots pc lv st := by
  intro p e s m args below meth c H locs ls hC hz hP hD hS hl
  subst hlv
  subst hv
  obtain ⟨k, hk⟩ := List.getElem?_of_mem ((mem_lprs i (.int x) lv 0).mpr ⟨i, hx, by omega⟩)
  exact lv_iinc hC.1 hC.2.1 hd (lh_has hl) hk rfl hn rfl (fun ls hl2 => h p e s m args below meth c H locs ls hC hz hP hD hS (lh_store1 hok hl2))
theorem gk_dup {v : Value} (hd : decode cc pc = .ok (.dup, 1)) (hv : v.category = 1) (h : Gk l E cc nL own R h0 sz Post mc ms ws cells slots (pc + 1) lv (v :: v :: st)) : Gk l E cc nL own R h0 sz Post mc ms ws cells slots pc lv (v :: st) := by
  intro p e s m args below meth c H locs ls hC hz hP hD hS hl
  exact lv_dup hC.1 hC.2.1 hd hv (h p e s m args below meth c H locs ls hC hz hP hD hS hl)
theorem gk_goto {off : Int} {tgt : Nat} (hd : decode cc pc = .ok (.goto off, 3)) (ht : (pc : Int) + off = (tgt : Int)) (h : Gk l E cc nL own R h0 sz Post mc ms ws cells slots tgt lv st) : Gk l E cc nL own R h0 sz Post mc ms ws cells slots pc lv st := by
  intro p e s m args below meth c H locs ls hC hz hP hD hS hl
  exact lv_goto hC.1 hC.2.1 hd ht (h p e s m args below meth c H locs ls hC hz hP hD hS hl)
theorem gk_ge_T {x y : Int32} {off : Int} {tgt : Nat} (hd : decode cc pc = .ok (.if_icmp .ge off, 3)) (ht : (pc : Int) + off = (tgt : Int)) (hc : y ≤ x) (h : Gk l E cc nL own R h0 sz Post mc ms ws cells slots tgt lv st) : Gk l E cc nL own R h0 sz Post mc ms ws cells slots pc lv (.int y :: .int x :: st) := by
  intro p e s m args below meth c H locs ls hC hz hP hD hS hl
  exact lv_icmp_ge hC.1 hC.2.1 hd ht (fun _ => h p e s m args below meth c H locs ls hC hz hP hD hS hl) (fun hn => absurd hc hn)
theorem gk_ge_F {x y : Int32} {off : Int} {tgt : Nat} (hd : decode cc pc = .ok (.if_icmp .ge off, 3)) (ht : (pc : Int) + off = (tgt : Int)) (hc : ¬ y ≤ x) (h : Gk l E cc nL own R h0 sz Post mc ms ws cells slots (pc + 3) lv st) : Gk l E cc nL own R h0 sz Post mc ms ws cells slots pc lv (.int y :: .int x :: st) := by
  intro p e s m args below meth c H locs ls hC hz hP hD hS hl
  exact lv_icmp_ge hC.1 hC.2.1 hd ht (fun hn => absurd hn hc) (fun _ => h p e s m args below meth c H locs ls hC hz hP hD hS hl)
theorem gk_objInit {idx a : Nat} (hd : decode cc pc = .ok (.invokespecial idx, 3)) (hlk : Cond.methodLink own idx objectInit ∈ lw_tbl) (hf : 1 ≤ R.frames) (hlo : (st.map fun v => v.category).sum + 12 ≤ R.locals) (h : Gk l E cc nL own R h0 sz Post mc ms ws cells slots (pc + 3) lv st) : Gk l E cc nL own R h0 sz Post mc ms ws cells slots pc lv (.ref a :: st) := by
  intro p e s m args below meth c H locs ls hC hz hP hD hS hl
  refine W.objInit hC.1 hC.2.1 hC.2.2.2.1 (hC.2.2.2.2.1 _ (gw_in hlk rfl)) (hC.2.2.2.2.1 _ (gw_in tb_77 rfl)) (hC.2.2.2.2.1 _ (gw_in tb_78 rfl)) rfl (by rw [hC.2.2.1]; exact hl.1) rfl hd hf (by show 2 * 0 + _ + 12 ≤ _; omega) ?_
  exact W.eq (g2 := F0 m (pc + 3) ls st) rfl (h p e s m args below meth c H locs ls hC hz hP hD hS hl)
theorem gk_new {ci N idx : Nat} {C : String} {T : u_T} {fs : List Value} (hd : decode cc pc = .ok (.new idx, 3)) (hc : vwCl[ci]? = some (C, T, N)) (hin : ∀ w ∈ u_ws C T N, w ∈ gwl) (ty : Nat → FieldType) (hty : ∀ k, k < N → parseFieldDescriptor (T k).2.2.1 = some (ty k)) (hcl : Cond.classLink own idx C ∈ lw_tbl) (hinst : Cond.instantiable C N ∈ lw_tbl) (hini : Cond.initialized C ∈ lw_tbl) (hfs : ∀ j, j < N → defaultValue (ty j) = vp_V fs j) (hcells : cells + 1 ≤ R.cells) (hslots : slots + N ≤ R.slots) (h : ∀ q, Gk l E cc nL own R h0 sz Post mc ms ((q, .inr (ci, fs)) :: ws) (cells + 1) (slots + N) (pc + 3) lv (.ref q :: st)) : Gk l E cc nL own R h0 sz Post mc ms ws cells slots pc lv st := by
  intro p e s m args below meth c H locs ls hC hz hP hD hS hl
  have tb : ∀ {z : Cond}, z ∈ lw_tbl → goodWord z = true → z.before args s = true := fun h1 h2 => hC.2.2.2.2.1 _ (gw_in h1 h2)
  refine va_new hC.1 hC.2.1 hC.2.2.2.2.1 hin ty hty hC.2.2.2.1 (tb hcl rfl) (tb hinst rfl) (tb hini rfl) hC.2.2.2.2.2.2.2.2.1 hP hD hS (fun q hq => Or.inr (by omega)) hc hfs hcells hslots hd (fun q H1 hP hD hS => ?_)
  exact h q p e s m args below meth c H1 locs ls hC hz (va_P_comm hP) (va_D_comm hD) hS hl
theorem cls_eq {s : State} {c1 c2 : ClassId} {ty : FieldType} (h1 : va_RA s c1 ty) (h2 : va_RA s c2 ty) : c1 = c2 := by
  cases ty with
  | object C =>
    obtain ⟨_, _, _, _, _, a⟩ := h1
    obtain ⟨_, _, _, _, _, b⟩ := h2
    exact Option.some.inj (a.symm.trans b)
  | _ => exact Option.some.inj ((show s.vm.findClass _ = some c1 from h1).symm.trans (show s.vm.findClass _ = some c2 from h2))
theorem gk_newI {n : Int32} {N' : Nat} (hd : decode cc pc = .ok (.newarray .int, 2)) (hn : ¬ n < 0) (hN : n.toNatClampNeg = N') (hb : N' * 4 ≤ 536870912) (hcells : cells + 1 ≤ R.cells) (hslots : slots + N' ≤ R.slots) (h : ∀ q, Gk l E cc nL own R h0 sz Post mc ms ((q, .inl (E.2.2.1, N', .inl (fun _ => 0))) :: ws) (cells + 1) (slots + N') (pc + 2) lv (.ref q :: st)) : Gk l E cc nL own R h0 sz Post mc ms ws cells slots pc lv (.int n :: st) := by
  intro p e s m args below meth c H locs ls hC hz hP hD hS hl
  have hK := hC.2.2.2.2.2.2.2.2.1
  refine va_newa (atype := .int) (ty := .int) (a0 := (N', .inl (fun _ => 0))) hC.1 hC.2.1 (hC.2.2.2.2.1 _ (gw_in tb_113 rfl)) rfl hK hP hD hS (fun q hq => Or.inr (by omega)) (fun cA => rfl) hn hN hb hcells hslots hd (fun q cA H1 hK1 hP1 hD1 hS1 => ?_)
  have hcA : cA = E.2.2.1 := cls_eq (hK1.2 3 (cA, .int) rfl).2 (hK.2 0 (E.2.2.1, .int) rfl).2
  subst hcA
  exact h q p e s m args below meth c H1 locs ls hC hz (va_P_comm hP1) (va_D_comm hD1) hS1 hl
theorem gk_newC {n : Int32} {N' : Nat} (hd : decode cc pc = .ok (.newarray .char, 2)) (hn : ¬ n < 0) (hN : n.toNatClampNeg = N') (hb : N' * 2 ≤ 536870912) (hcells : cells + 1 ≤ R.cells) (hslots : slots + N' ≤ R.slots) (h : ∀ q, Gk l E cc nL own R h0 sz Post mc ms ((q, .inl (E.2.2.2.1, N', .inl (fun _ => 0))) :: ws) (cells + 1) (slots + N') (pc + 2) lv (.ref q :: st)) : Gk l E cc nL own R h0 sz Post mc ms ws cells slots pc lv (.int n :: st) := by
  intro p e s m args below meth c H locs ls hC hz hP hD hS hl
  have hK := hC.2.2.2.2.2.2.2.2.1
  refine va_newa (atype := .char) (ty := .char) (a0 := (N', .inl (fun _ => 0))) hC.1 hC.2.1 (hC.2.2.2.2.1 _ (gw_in tb_236 rfl)) rfl hK hP hD hS (fun q hq => Or.inr (by omega)) (fun cA => rfl) hn hN hb hcells hslots hd (fun q cA H1 hK1 hP1 hD1 hS1 => ?_)
  have hcA : cA = E.2.2.2.1 := cls_eq (hK1.2 3 (cA, .char) rfl).2 (hK.2 1 (E.2.2.2.1, .char) rfl).2
  subst hcA
  exact h q p e s m args below meth c H1 locs ls hC hz (va_P_comm hP1) (va_D_comm hD1) hS1 hl
theorem gk_newR {n : Int32} {N' idx : Nat} (hd : decode cc pc = .ok (.anewarray idx, 3)) (hcl : Cond.classLink own idx RX4 ∈ lw_tbl) (hn : ¬ n < 0) (hN : n.toNatClampNeg = N') (hb : N' * 4 ≤ 536870912) (hcells : cells + 1 ≤ R.cells) (hslots : slots + N' ≤ R.slots) (h : ∀ q, Gk l E cc nL own R h0 sz Post mc ms ((q, .inl (E.2.2.2.2, N', .inr (.inr (.inr (.inr (fun _ => none)))))) :: ws) (cells + 1) (slots + N') (pc + 3) lv (.ref q :: st)) : Gk l E cc nL own R h0 sz Post mc ms ws cells slots pc lv (.int n :: st) := by
  intro p e s m args below meth c H locs ls hC hz hP hD hS hl
  have hK := hC.2.2.2.2.2.2.2.2.1
  refine va_newq hC.1 hC.2.1 hC.2.2.2.1 (hC.2.2.2.2.1 _ (gw_in hcl rfl)) hC.2.2.2.2.2.2.2.2.2.1 hK hP hD hS (fun q hq => Or.inr (by omega)) hn hN hb hcells hslots hd (fun q cA H1 hK1 hP1 hD1 hS1 => ?_)
  have hcA : cA = E.2.2.2.2 := cls_eq (hK1.2 3 (cA, .object RX4) rfl).2 (hK.2 2 (E.2.2.2.2, .object RX4) rfl).2
  subst hcA
  exact h q p e s m args below meth c H1 locs ls hC hz (va_P_comm hP1) (va_D_comm hD1) hS1 hl
theorem gk_putI {a ci idx N : Nat} {C ref : String} {T : u_T} {fs : List Value} {x : Int32} {ws' : va_W} (hd : decode cc pc = .ok (.putfield idx, 3)) (q0 : Nat) (he : ws[q0]? = some (a, .inr (ci, fs))) (hc : vwCl[ci]? = some (C, T, N)) (hin : ∀ w ∈ u_ws C T N, w ∈ gwl) (ty0 : Nat → FieldType) (hty : ∀ k, k < N → parseFieldDescriptor (T k).2.2.1 = some (ty0 k)) (hnm : ∀ a, a < N → ∀ b, b < N → a ≠ b → (T a).2.1 ≠ (T b).2.1) (k : Nat) (hk : k < N) (hlk : Cond.fieldLink own idx ref (T k).2.1 (T k).2.2.1 ∈ lw_tbl) (href : (T k).1 = ref) (hfin : (T k).2.2.2 = false) (hpd : parseFieldDescriptor (T k).2.2.1 = some .int) (hlen : k < fs.length) (hws : ws.set q0 (a, .inr (ci, fs.set k (.int x))) = ws') (h : Gk l E cc nL own R h0 sz Post mc ms ws' cells slots (pc + 3) lv st) : Gk l E cc nL own R h0 sz Post mc ms ws cells slots pc lv (.int x :: .ref a :: st) := by
  intro p e s m args below meth c H locs ls hC hz hP hD hS hl
  subst href
  subst hws
  exact va_put hC.1 hC.2.1 hC.2.2.2.2.1 hin ty0 hty hnm hC.2.2.2.1 hC.2.2.2.2.2.2.2.2.1 hP hD hS q0 he hc k hk (hC.2.2.2.2.1 _ (gw_in hlk rfl)) (fun _ h9 => h9) hfin hpd rfl rfl hlen hd (fun H locs hP hD hS => h p e s m args below meth c H locs ls hC hz hP hD hS hl)
theorem gk_putF {a ci idx N v : Nat} {C : String} {T : u_T} {fs : List Value} {ty : FieldType} {ws' : va_W} (hd : decode cc pc = .ok (.putfield idx, 3)) (q0 : Nat) (he : ws[q0]? = some (a, .inr (ci, fs))) (hc : vwCl[ci]? = some (C, T, N)) (hin : ∀ w ∈ u_ws C T N, w ∈ gwl) (ty0 : Nat → FieldType) (hty : ∀ k, k < N → parseFieldDescriptor (T k).2.2.1 = some (ty0 k)) (hnm : ∀ a, a < N → ∀ b, b < N → a ≠ b → (T a).2.1 ≠ (T b).2.1) (k : Nat) (hk : k < N) (hlk : Cond.fieldLink own idx own (T k).2.1 (T k).2.2.1 ∈ lw_tbl) (href : (T k).1 = own) (hfin : (T k).2.2.2 = true) (hpd : parseFieldDescriptor (T k).2.2.1 = some ty) (hn : narrow ty (.ref v) = .ref v) (hfit : fits ty (.ref v) = true) (hlen : k < fs.length) (hws : ws.set q0 (a, .inr (ci, fs.set k (.ref v))) = ws') (h : Gk l E cc nL own R h0 sz Post mc ms ws' cells slots (pc + 3) lv st) : Gk l E cc nL own R h0 sz Post mc ms ws cells slots pc lv (.ref v :: .ref a :: st) := by
  intro p e s m args below meth c H locs ls hC hz hP hD hS hl
  subst hws
  exact va_putF hC.1 hC.2.1 hC.2.2.2.2.1 hin ty0 hty hnm hC.2.2.2.1 hC.2.2.2.2.2.2.2.2.1 hP hD hS q0 he hc k hk (hC.2.2.2.2.1 _ (gw_in hlk rfl)) (fun x h9 => by rw [href] at h9; exact h9) hfin hC.2.2.2.2.2.2.2.2.2.2 href hpd hn hfit hlen hd (fun H locs hP hD hS => h p e s m args below meth c H locs ls hC hz hP hD hS hl)
theorem gk_get {a ci idx N : Nat} {C ref : String} {T : u_T} {fs : List Value} {v : Value} (hd : decode cc pc = .ok (.getfield idx, 3)) (q0 : Nat) (he : ws[q0]? = some (a, .inr (ci, fs))) (hc : vwCl[ci]? = some (C, T, N)) (hin : ∀ w ∈ u_ws C T N, w ∈ gwl) (k : Nat) (hk : k < N) (hlk : Cond.fieldLink own idx ref (T k).2.1 (T k).2.2.1 ∈ lw_tbl) (href : (T k).1 = ref) (hv : fs[k]? = some v) (h : Gk l E cc nL own R h0 sz Post mc ms ws cells slots (pc + 3) lv (v :: st)) : Gk l E cc nL own R h0 sz Post mc ms ws cells slots pc lv (.ref a :: st) := by
  intro p e s m args below meth c H locs ls hC hz hP hD hS hl
  subst href
  exact va_get hC.1 hC.2.1 hC.2.2.2.2.1 hin hC.2.2.2.1 hC.2.2.2.2.2.2.2.2.1 hP q0 he hc k hk (hC.2.2.2.2.1 _ (gw_in hlk rfl)) (fun _ h9 => h9) hv hd (h p e s m args below meth c H locs ls hC hz hP hD hS hl)
theorem gk_iast {a n : Nat} {f : Nat → Int32} {i x : Int32} {ws' : va_W} (hd : decode cc pc = .ok (.iastore, 1)) (q0 : Nat) (he : ws[q0]? = some (a, .inl (E.2.2.1, n, .inl f))) (hi : ib i n = true) (hws : ws.set q0 (a, .inl (E.2.2.1, n, .inl (upd f i.toNatClampNeg x))) = ws') (h : Gk l E cc nL own R h0 sz Post mc ms ws' cells slots (pc + 1) lv st) : Gk l E cc nL own R h0 sz Post mc ms ws cells slots pc lv (.int x :: .int i :: .ref a :: st) := by
  intro p e s m args below meth c H locs ls hC hz hP hD hS hl
  subst hws
  exact va_iast hC.1 hC.2.1 hC.2.2.2.2.2.2.2.2.1 hP hD hS q0 0 he rfl (ib_in hi) hd (fun H locs hP hD hS => h p e s m args below meth c H locs ls hC hz hP hD hS hl)
theorem gk_aast {a n v : Nat} {vs : List Value} {f : Nat → Option Nat} {i : Int32} {ws' : va_W} (hd : decode cc pc = .ok (.aastore, 1)) (q0 qk : Nat) (he : ws[q0]? = some (a, .inl (E.2.2.2.2, n, .inr (.inr (.inr (.inr f)))))) (hv : ws[qk]? = some (v, .inr (4, vs))) (hi : ib i n = true) (hws : ws.set q0 (a, .inl (E.2.2.2.2, n, .inr (.inr (.inr (.inr (va_up f i.toNatClampNeg (some v))))))) = ws') (h : Gk l E cc nL own R h0 sz Post mc ms ws' cells slots (pc + 1) lv st) : Gk l E cc nL own R h0 sz Post mc ms ws cells slots pc lv (.ref v :: .int i :: .ref a :: st) := by
  intro p e s m args below meth c H locs ls hC hz hP hD hS hl
  subst hws
  exact va_astq (r := (RX4, TX4, 9)) hC.1 hC.2.1 hC.2.2.2.2.2.2.2.2.1 hP hD hS q0 2 qk 4 he rfl hv rfl (ib_in hi) hd (fun H locs hP hD hS => h p e s m args below meth c H locs ls hC hz hP hD hS hl)
theorem gk_vret {ws' : va_W} (hd : decode cc pc = .ok (.return_, 1)) (is : List Nat) (hs : is.map (fun i => ws[i]?) = ws'.map some) (hn : va_nd is = true) (hp : Post ws') : Gk l E cc nL own R h0 sz Post cells slots ws cells slots pc lv [] := by
  intro p e s m args below meth c H locs ls hC hz hP hD hS hl
  have hP' : va_P E.2.1 vwCl ws' H := fun k q hk => by
    have h1 : (is.map (fun i => ws[i]?))[k]? = some (some q) := by rw [hs, List.getElem?_map, hk]; rfl
    rw [List.getElem?_map] at h1
    cases hi : is[k]? with
    | none => rw [hi] at h1; cases h1
    | some i => rw [hi] at h1; exact hP i q (Option.some.inj h1)
  exact W.vret hC.1 hC.2.1 hC.2.2.2.2.2.2.1 (fun t ht hW => ⟨rfl, ⟨ws', hp, by rw [ht]; exact hP', hD.sub is hn hs⟩, va_K.moved hW.alike hC.2.2.2.2.2.2.2.2.1, hS.F ht⟩) hS.2.2 hd hC.2.2.2.2.2.2.2.1
/-- behind a call of a constructor -/
theorem gk_back {p : Program} {e : Env} {s : State} {m : MethodId} {args : Array Value} {below : List Frame} {meth : Method} {c : Code} {H : Heap} {locs : List Loc} {ls : Array Slot} {x mc' ms' : Nat} {ex : va_E} {stk : List Value} {a : Array Value} {Post' : va_W → Prop} {Q : State → Prop} {A0 : Nat → Prop} (hA : ∀ q, s.heap.size ≤ q → A0 q) (hP : va_P E.2.1 vwCl ((x, ex) :: wr) H) (hD : va_D A0 ((x, ex) :: wr)) (hS : va_S A0 s.heap H locs)
    (hr : va_Run p l e R s m args below meth c H locs cells slots mc' ms' (F0 m pc ls stk) st (Qn E x H.size Post' a) (AH x H.size))
    (kk : ∀ (H1 : Heap) (locs1 : List Loc) (w1 : va_W), Post' w1 → va_P E.2.1 vwCl (w1 ++ wr) H1 → va_D A0 (w1 ++ wr) → va_S A0 s.heap H1 locs1 → W p l e R s m args below meth c H1 locs1 (cells + mc') (slots + ms') Q (F0 m (pc + 3) ls st)) : W p l e R s m args below meth c H locs cells slots Q (F0 m pc ls stk) := by
  intro T hT X
  obtain ⟨v, st₀, t, T', L, h0', X', hL, e1, e2, ⟨hv, ⟨w1, hPost, hP1, hD1⟩, hK1, hz1, hk1⟩, st'⟩ := hr T hT X
  cases hv
  rw [h0'] at hz1 hk1
  have hxA : A0 x := hD.2 0 _ rfl
  have up : ∀ q, AH x H.size q → A0 q := fun q h => by
    rcases h with h | h
    · rw [h]; exact hxA
    · exact hA q (Nat.le_trans hS.1 h)
  have apart : ∀ (k : Nat) (q : Nat × va_E), wr[k]? = some q → q.1 < H.size ∧ ¬ AH x H.size q.1 := by
    intro k q hq
    have hl := (hP (k + 1) q hq).lt
    refine ⟨hl, fun h => ?_⟩
    rcases h with h | h
    · have := hD.1 (k + 1) 0 q (x, ex) hq rfl h
      omega
    · omega
  have hPn : va_P E.2.1 vwCl (w1 ++ wr) T'.heap := va_P.app (by rw [e1]; exact hP1) (fun k q hq => (hP (k + 1) q hq).kept (by rw [e1]; exact hk1 q.1 (apart k q hq).1 (apart k q hq).2))
  have hDn : va_D A0 (w1 ++ wr) := va_D.app (hD1.weaken (fun k q _ h => up q.1 h)) (va_D_right (u := [(x, ex)]) hD) (fun i j p q hp hq e => (apart j q hq).2 (by rw [← e]; exact hD1.2 i p hp))
  obtain ⟨t2, a1, b1⟩ := kk T'.heap (locs ++ L) w1 hPost hPn hDn ⟨Nat.le_trans hS.1 (by rw [e1]; exact hz1), fun q h1 h2 => by rw [e1, hk1 q (Nat.lt_of_lt_of_le h1 hS.1) (fun z => h2 (up q z))]; exact hS.2.1 q h1 h2, fun q hq => by
      rcases List.mem_append.mp hq with h | h
      · exact hS.2.2 q h
      · exact up _ (hL q h)⟩ T' rfl X'
  exact ⟨t2, st' t2 a1, b1⟩
def CI (y : MethodName) (cc' : ByteArray) (n' : Nat) : Prop := Cond.instanceMethod y ∈ lw_tbl ∧ Cond.code y cc' n' none ∈ lw_tbl ∧ Cond.initialized y.cls ∈ lw_tbl ∧ (y.cls ≠ "java/lang/invoke/MethodHandle" ∧ y.cls ≠ "java/lang/invoke/VarHandle" ∧ (parseMethodDescriptor y.desc).map (fun d => d.parameters.length) = some 0) ∧ y.name = "<init>"
theorem gk_callN {x ci idx h' n' mc' ms' : Nat} {y : MethodName} {cc' : ByteArray} {fs : List Value} {Post' : Nat → va_W → Prop} (hd : decode cc pc = .ok (.invokespecial idx, 3)) (hM : Nt l E y cc' n' h' mc' ms' ci fs Post') (hy : CI y cc' n') (hlk : Cond.methodLinkNest own idx y RX9 ∈ lw_tbl) (hf : h' + 1 ≤ R.frames ∧ 8 + (n' + 11) + 40 * h' ≤ R.locals) (hst : (st.map fun v => v.category).sum ≤ 8) (hcs : cells + mc' ≤ R.cells ∧ slots + ms' ≤ R.slots) (h : ∀ w1, Post' x w1 → Gk l E cc nL own R h0 sz Post mc ms (w1 ++ wr) (cells + mc') (slots + ms') (pc + 3) lv st) : Gk l E cc nL own R h0 sz Post mc ms ((x, .inr (ci, fs)) :: wr) cells slots pc lv (.ref x :: st) := by
  intro p e s m args below meth c H locs ls hC hz hP hD hS hl
  have tb : ∀ {z : Cond}, z ∈ lw_tbl → goodWord z = true → z.before args s = true := fun h1 h2 => hC.2.2.2.2.1 _ (gw_in h1 h2)
  have hws : ∀ z ∈ (Cond.code y cc' n' none :: gwl), z.before args s = true := fun z hz => (List.mem_cons.mp hz).elim (fun e => by rw [e]; exact tb hy.2.1 rfl) (hC.2.2.2.2.1 z)
  have hrun := va_runIN (locs := locs) (below := below) (meth := meth) (e := e) (l := l) (cells := cells) (slots := slots) (As := []) (rest := st) (g := F0 m pc ls (.ref x :: st)) (Ts := .code y cc' n' none :: gwl) ⟨hC.1, hC.2.1, hC.2.2.1, hC.2.2.2.1, hws⟩ (hM x H.size) ⟨va_cnB 0 (Ts := .code y cc' n' none :: gwl) hws (gw_good hy.2.1 rfl) rfl rfl rfl (hC.2.2.2.2.2.1 _ hlk rfl) (tb hy.2.2.1 rfl) hy.2.2.2.1 hf, hy.2.2.2.2, tb hy.1 rfl⟩ ⟨Wk0.blind, fun U hU hW => ⟨rfl, by rw [hU], by rw [hU]; exact va_P_mem hP (fun q hq => by rw [List.mem_singleton.mp hq]; exact List.mem_cons_self), va_K.moved hW.alike hC.2.2.2.2.2.2.2.2.1, hC.2.2.2.2.2.1.warm hW, va_AO.moved hW.alike hC.2.2.2.2.2.2.2.2.2.1⟩⟩ rfl rfl hl.1 rfl (lv_room hst) hd hcs
  exact gk_back (fun q hq => Or.inr (by omega)) hP hD hS hrun (fun H1 locs1 w1 hp hP1 hD1 hS1 => h w1 hp p e s m args below meth c H1 locs1 ls hC hz hP1 hD1 hS1 hl)
theorem gk_callI {x ci idx h' n' mc' ms' : Nat} {y : MethodName} {cc' : ByteArray} {fs : List Value} {Post' : Nat → va_W → Prop} (hd : decode cc pc = .ok (.invokespecial idx, 3)) (hM : Nt l E y cc' n' h' mc' ms' ci fs Post') (hy : CI y cc' n') (hlk : Cond.methodLink own idx y ∈ lw_tbl) (hf : h' + 1 ≤ R.frames ∧ 8 + (n' + 11) + 40 * h' ≤ R.locals) (hst : (st.map fun v => v.category).sum ≤ 8) (hcs : cells + mc' ≤ R.cells ∧ slots + ms' ≤ R.slots) (h : ∀ w1, Post' x w1 → Gk l E cc nL own R h0 sz Post mc ms (w1 ++ wr) (cells + mc') (slots + ms') (pc + 3) lv st) : Gk l E cc nL own R h0 sz Post mc ms ((x, .inr (ci, fs)) :: wr) cells slots pc lv (.ref x :: st) := by
  intro p e s m args below meth c H locs ls hC hz hP hD hS hl
  have tb : ∀ {z : Cond}, z ∈ lw_tbl → goodWord z = true → z.before args s = true := fun h1 h2 => hC.2.2.2.2.1 _ (gw_in h1 h2)
  have hws : ∀ z ∈ (Cond.code y cc' n' none :: gwl), z.before args s = true := fun z hz => (List.mem_cons.mp hz).elim (fun e => by rw [e]; exact tb hy.2.1 rfl) (hC.2.2.2.2.1 z)
  have hrun := va_runI (locs := locs) (below := below) (meth := meth) (e := e) (l := l) (cells := cells) (slots := slots) (As := []) (rest := st) (g := F0 m pc ls (.ref x :: st)) (Ts := .code y cc' n' none :: gwl) ⟨hC.1, hC.2.1, hC.2.2.1, hC.2.2.2.1, hws⟩ (hM x H.size) ⟨callB_of 0 (Ts := .code y cc' n' none :: gwl) hws (gw_good hy.2.1 rfl) rfl rfl rfl (tb hy.2.2.1 rfl) (tb hlk rfl) hy.2.2.2.1 hf, hy.2.2.2.2, tb hy.1 rfl⟩ ⟨Wk0.blind, fun U hU hW => ⟨rfl, by rw [hU], by rw [hU]; exact va_P_mem hP (fun q hq => by rw [List.mem_singleton.mp hq]; exact List.mem_cons_self), va_K.moved hW.alike hC.2.2.2.2.2.2.2.2.1, hC.2.2.2.2.2.1.warm hW, va_AO.moved hW.alike hC.2.2.2.2.2.2.2.2.2.1⟩⟩ rfl rfl hl.1 rfl (lv_room hst) hd hcs
  exact gk_back (fun q hq => Or.inr (by omega)) hP hD hS hrun (fun H1 locs1 w1 hp hP1 hD1 hS1 => h w1 hp p e s m args below meth c H1 locs1 ls hC hz hP1 hD1 hS1 hl)
theorem Nt.of {y : MethodName} {n h ci : Nat} {fs : List Value} {Post : Nat → va_W → Prop} (lv0 : Nat → List (Option Value)) (hy : plainFor y = true) (hown : y.cls = own) (hname : y.name = "<init>") (hle : 1 ≤ n) (hlv : ∀ h0, lv_args 0 [.ref h0] = lprs 0 (lv0 h0)) (hG : ∀ h0 sz, Gk l E cc n own (rmc h mc ms) h0 sz (Post h0) mc ms [(h0, .inr (ci, fs))] 0 0 0 (lv0 h0) []) : Nt l E y cc n h mc ms ci fs Post := by
  intro h0 sz
  refine Met.ofWF (cc := cc) (maxL := n) (ret := none) hy rfl ?_
  intro p e s m args below meth c s₁ B hml hv
  obtain ⟨rfl, hsz, hP, hK, hN, hA⟩ := hv
  rw [lg_entry_eq]
  have hl := lv_entry [.ref h0] (n := n) hle
  rw [hlv h0] at hl
  refine hG h0 sz p e s m _ below meth c s.heap [] _ ⟨B.exec, B.bytes, hml, by rw [← hown]; exact findClass_of_methodNamed B.named, fun w hw => atoms_spec (ws := .code y cc n none :: gwl) B.pre w (List.mem_cons_of_mem _ hw), hN, B.returns, B.notSynchronized, hK, hA, (name_of_methodNamed B.named B.method).1.trans hname⟩ hsz hP ⟨fun i j p q hi hj _ => ?_, fun k q hk => ?_⟩ va_S.rf (has_lh hl)
  · have a1 := (List.getElem?_eq_some_iff.mp hi).1
    have a2 := (List.getElem?_eq_some_iff.mp hj).1
    simp at a1 a2
    omega
  · have a1 := (List.getElem?_eq_some_iff.mp hk).1
    have : k = 0 := by simp at a1; omega
    subst this
    cases hk
    exact Or.inl rfl
end GK
