/-! THE CLAIM OUT OF ONE WALK OF THE LAW'S BODY. Your part is whole_start (and what it stands on); all else here is the same for every law, but numbers. -/
def R_law : String := "CallRouterLaw"
def lw_P (b : Addr) (xs : List Int32) (args : Array Value) (s : State) : Prop := args = #[.ref b] ∧ s.IntsAt b xs ∧ xs.length ≤ 3072 ∧ (Jvm.Cond.and given_1 narrow_1).before args s = true
def lw_Q (_ : Array Value) (s : State) (o : Outcome) (t : State) : Prop := o = .returned (some (.int 1)) ∧ Framed s o t [] 600000 7302250
def lw_Z (below : List Frame) (a : Array Value) (s : State) : State → Prop := fun t => ∃ o, t.status = .running ∧ Ended t below o ∧ lw_Q a s o t
/-- the law's own end, with 1 on the stack, nothing written that was there before, its room as the claim has it -/
theorem lw_ret {p : Program} {l : Launch} {e : Env} {s : State} {m : MethodId} {below : List Frame} {meth : Method} {c : Code} {b : Nat} (hx : p.tables.exec = Jvm.exec) (hb : c.code = code) (hr : meth.sig.returnType = ret) (hlocks : meth.locks = false) {pc : Nat} {H : Heap} {ls : Array Slot} (hdg : decode code pc = .ok (.ireturn, 1)) : W p l e room_1 s m #[Value.ref b] below meth c H [] 600000 7302250 (lw_Z below #[Value.ref b] s) (F0 m pc ls [.int 1]) := by
  intro T hT X
  obtain ⟨fs, hret, hrun, hended, hW, hframe⟩ := X.leave (v := some (.int 1)) (hlocks := hlocks) (fun h => by rw [hr] at h; cases h)
  have hmeth' : T.vm.method? m = some meth := X.method'
  refine ⟨T.setFrames fs, ?_, .returned (some (.int 1)), hrun, hended, rfl, ⟨_, rfl⟩, hW, hframe⟩
  jvm_step X.here [X.here.top, hx, hb, hdg, hmeth', hr, ret, narrow_b1]
  (try refine ⟨rfl, ?_⟩); (try refine ⟨rfl, ?_⟩)
  first | (intro acts; rw [hret _ acts rfl rfl rfl]) | rw [hret _ _ rfl rfl rfl]
  exact Steps.refl _
/-- what holds at the law's entry: the machine, the code, the tables' words (any of lw_tbl by 'hts w (by decide +kernel)'), the script of L ints xs at the cell b, what the Statement gives of the start (any of its parts by flat_of_before) -/
def lw_At (p : Program) (s : State) (m : MethodId) (meth : Method) (c : Code) (b L : Nat) (xs : Nat → Int32) : Prop :=
  p.tables.exec = Jvm.exec ∧ c.code = code ∧ meth.sig.returnType = ret ∧ c.maxLocals = 4 ∧ s.vm.findClass R_law = some m.cls ∧ (∀ w ∈ lw_tbl, w.before #[Value.ref b] s = true) ∧ va_X b L xs s s.heap ∧ b < s.heap.size ∧ meth.locks = false ∧ (Jvm.Cond.and given_1 narrow_1).before #[Value.ref b] s = true

def Lc (E : En) (p : Program) (s : State) (m : MethodId) (meth : Method) (c : Code) (b L : Nat) (xs : Nat → Int32) : Prop := lw_At p s m meth c b L xs ∧ va_K E.2.1 vwCl (tyl E) s ∧ NWs s ∧ ∀ q, AA E q → s.heap.size ≤ q
def Lw (p : Program) (l : Launch) (e : Env) (s : State) (m : MethodId) (below : List Frame) (meth : Method) (c : Code) (b : Nat) (E : En) (w : Wd) (pc : Nat) (lv : List (Option Value)) (st : List Value) : Prop := ∀ (H : Heap) (locs : List Loc) (ls : Array Slot), va_P E.2.1 vwCl (wl E w) H → va_D (AA E) (wl E w) → va_S (fun q : Nat => s.heap.size ≤ q) s.heap H locs → lh ls 4 lv → W p l e room_1 s m #[Value.ref b] below meth c H locs 600000 7302250 (lw_Z below #[Value.ref b] s) (F0 m pc ls st)
section LQ
variable {p : Program} {l : Launch} {e : Env} {s : State} {m : MethodId} {below : List Frame} {meth : Method} {c : Code} {b L : Nat} {xs : Nat → Int32} {E : En} {w : Wd} {pc : Nat} {lv : List (Option Value)} {st : List Value}
theorem lq_iconst {n : Int} {v : Int32} (C0 : Lc E p s m meth c b L xs) (hd : decode code pc = .ok (.iconst n, 1)) (hv : Int32.ofInt n = v) (h : Lw p l e s m below meth c b E w (pc + 1) lv (.int v :: st)) : Lw p l e s m below meth c b E w pc lv st := by
  intro H locs ls hP hD hS hl
  exact lv_iconst C0.1.1 C0.1.2.1 hd hv (h H locs ls hP hD hS hl)
theorem lq_bipush {n : Int} {v : Int32} (C0 : Lc E p s m meth c b L xs) (hd : decode code pc = .ok (.bipush n, 2)) (hv : (Int8.ofInt n).toInt32 = v) (h : Lw p l e s m below meth c b E w (pc + 2) lv (.int v :: st)) : Lw p l e s m below meth c b E w pc lv st := by
  intro H locs ls hP hD hS hl
  exact lv_bipush C0.1.1 C0.1.2.1 hd hv (h H locs ls hP hD hS hl)
theorem lq_aload_n {k : Fin 4} {i x : Nat} (C0 : Lc E p s m meth c b L xs) (hd : decode code pc = .ok (.aload_n k, 1)) (hi : (k : Nat) = i) (hx : lv[i]? = some (some (.ref x))) (h : Lw p l e s m below meth c b E w (pc + 1) lv (.ref x :: st)) : Lw p l e s m below meth c b E w pc lv st := by
  intro H locs ls hP hD hS hl
  exact lv_aload_n C0.1.1 C0.1.2.1 hd hi (hl.2.2 i _ hx) (h H locs ls hP hD hS hl)
theorem lq_iload_n {k : Fin 4} {i : Nat} {x : Int32} (C0 : Lc E p s m meth c b L xs) (hd : decode code pc = .ok (.iload_n k, 1)) (hi : (k : Nat) = i) (hx : lv[i]? = some (some (.int x))) (h : Lw p l e s m below meth c b E w (pc + 1) lv (.int x :: st)) : Lw p l e s m below meth c b E w pc lv st := by
  intro H locs ls hP hD hS hl
  exact lv_iload_n C0.1.1 C0.1.2.1 hd hi (hl.2.2 i _ hx) (h H locs ls hP hD hS hl)
theorem lq_iadd {x y : Int32} (C0 : Lc E p s m meth c b L xs) (hd : decode code pc = .ok (.iadd, 1)) (h : Lw p l e s m below meth c b E w (pc + 1) lv (.int (x + y) :: st)) : Lw p l e s m below meth c b E w pc lv (.int y :: .int x :: st) := by
  intro H locs ls hP hD hS hl
  exact lv_iadd C0.1.1 C0.1.2.1 hd (h H locs ls hP hD hS hl)
theorem lq_isub {x y : Int32} (C0 : Lc E p s m meth c b L xs) (hd : decode code pc = .ok (.isub, 1)) (h : Lw p l e s m below meth c b E w (pc + 1) lv (.int (x - y) :: st)) : Lw p l e s m below meth c b E w pc lv (.int y :: .int x :: st) := by
  intro H locs ls hP hD hS hl
  exact lv_isub C0.1.1 C0.1.2.1 hd (h H locs ls hP hD hS hl)
theorem lq_iand {x y : Int32} (C0 : Lc E p s m meth c b L xs) (hd : decode code pc = .ok (.iand, 1)) (h : Lw p l e s m below meth c b E w (pc + 1) lv (.int (x &&& y) :: st)) : Lw p l e s m below meth c b E w pc lv (.int y :: .int x :: st) := by
  intro H locs ls hP hD hS hl
  exact lv_iand C0.1.1 C0.1.2.1 hd (h H locs ls hP hD hS hl)
theorem lq_lcmp {x y : Int64} (C0 : Lc E p s m meth c b L xs) (hd : decode code pc = .ok (.lcmp, 1)) (h : Lw p l e s m below meth c b E w (pc + 1) lv (.int (lg_cmp x y) :: st)) : Lw p l e s m below meth c b E w pc lv (.long y :: .long x :: st) := by
  intro H locs ls hP hD hS hl
  exact W.lcmp C0.1.1 C0.1.2.1 hd (h H locs ls hP hD hS hl)
theorem lq_sld {i : Int32} (C0 : Lc E p s m meth c b L xs) (hd : decode code pc = .ok (.iaload, 1)) (hi : vp_in i L) (h : Lw p l e s m below meth c b E w (pc + 1) lv (.int (xs i.toNatClampNeg) :: st)) : Lw p l e s m below meth c b E w pc lv (.int i :: .ref b :: st) := by
  intro H locs ls hP hD hS hl
  exact va_sld C0.1.1 C0.1.2.1 C0.1.2.2.2.2.2.2.1 C0.1.2.2.2.2.2.2.2.1 (Nat.not_le.mpr C0.1.2.2.2.2.2.2.2.1) hS hi hd (h H locs ls hP hD hS hl)
theorem lq_slen  (C0 : Lc E p s m meth c b L xs) (hd : decode code pc = .ok (.arraylength, 1)) (h : Lw p l e s m below meth c b E w (pc + 1) lv (.int (nI L) :: st)) : Lw p l e s m below meth c b E w pc lv (.ref b :: st) := by
  intro H locs ls hP hD hS hl
  exact va_slen C0.1.1 C0.1.2.1 C0.1.2.2.2.2.2.2.1 C0.1.2.2.2.2.2.2.2.1 (Nat.not_le.mpr C0.1.2.2.2.2.2.2.2.1) hS hd (h H locs ls hP hD hS hl)
theorem lq_goto {off : Int} {tgt : Nat} (C0 : Lc E p s m meth c b L xs) (hd : decode code pc = .ok (.goto off, 3)) (ht : (pc : Int) + off = (tgt : Int)) (h : Lw p l e s m below meth c b E w tgt lv st) : Lw p l e s m below meth c b E w pc lv st := by
  intro H locs ls hP hD hS hl
  exact lv_goto C0.1.1 C0.1.2.1 hd ht (h H locs ls hP hD hS hl)
theorem lq_eq_T {x y : Int32} {off : Int} {tgt : Nat} (C0 : Lc E p s m meth c b L xs) (hd : decode code pc = .ok (.if_icmp .eq off, 3)) (ht : (pc : Int) + off = (tgt : Int)) (hc : x = y) (h : Lw p l e s m below meth c b E w tgt lv st) : Lw p l e s m below meth c b E w pc lv (.int y :: .int x :: st) := by
  intro H locs ls hP hD hS hl
  exact lv_icmp_eq C0.1.1 C0.1.2.1 hd ht (fun _ => h H locs ls hP hD hS hl) (fun hn => absurd hc hn)
theorem lq_gt_T {x y : Int32} {off : Int} {tgt : Nat} (C0 : Lc E p s m meth c b L xs) (hd : decode code pc = .ok (.if_icmp .gt off, 3)) (ht : (pc : Int) + off = (tgt : Int)) (hc : y < x) (h : Lw p l e s m below meth c b E w tgt lv st) : Lw p l e s m below meth c b E w pc lv (.int y :: .int x :: st) := by
  intro H locs ls hP hD hS hl
  exact lv_icmp_gt C0.1.1 C0.1.2.1 hd ht (fun _ => h H locs ls hP hD hS hl) (fun hn => absurd hc hn)
theorem lq_gt_F {x y : Int32} {off : Int} {tgt : Nat} (C0 : Lc E p s m meth c b L xs) (hd : decode code pc = .ok (.if_icmp .gt off, 3)) (ht : (pc : Int) + off = (tgt : Int)) (hc : ¬ y < x) (h : Lw p l e s m below meth c b E w (pc + 3) lv st) : Lw p l e s m below meth c b E w pc lv (.int y :: .int x :: st) := by
  intro H locs ls hP hD hS hl
  exact lv_icmp_gt C0.1.1 C0.1.2.1 hd ht (fun hn => absurd hn hc) (fun _ => h H locs ls hP hD hS hl)
theorem lq_if0_T {x : Int32} {off : Int} {tgt : Nat} (C0 : Lc E p s m meth c b L xs) (hd : decode code pc = .ok (.ifCond .eq off, 3)) (ht : (pc : Int) + off = (tgt : Int)) (hc : x = 0) (h : Lw p l e s m below meth c b E w tgt lv st) : Lw p l e s m below meth c b E w pc lv (.int x :: st) := by
  intro H locs ls hP hD hS hl
  exact lv_if_eq C0.1.1 C0.1.2.1 hd ht (fun _ => h H locs ls hP hD hS hl) (fun hn => absurd hc hn)
theorem lq_if0_F {x : Int32} {off : Int} {tgt : Nat} (C0 : Lc E p s m meth c b L xs) (hd : decode code pc = .ok (.ifCond .eq off, 3)) (ht : (pc : Int) + off = (tgt : Int)) (hc : ¬ x = 0) (h : Lw p l e s m below meth c b E w (pc + 3) lv st) : Lw p l e s m below meth c b E w pc lv (.int x :: st) := by
  intro H locs ls hP hD hS hl
  exact lv_if_eq C0.1.1 C0.1.2.1 hd ht (fun hn => absurd hn hc) (fun _ => h H locs ls hP hD hS hl)
theorem lq_tblOut {dflt lo hi : Int} {offs : Array Int} {len : Nat} {x : Int32} {tgt : Nat} (C0 : Lc E p s m meth c b L xs) (hd : decode code pc = .ok (.tableswitch dflt lo hi offs, len)) (ht : (pc : Int) + dflt = (tgt : Int)) (hc : x.toInt < lo ∨ hi < x.toInt) (h : Lw p l e s m below meth c b E w tgt lv st) : Lw p l e s m below meth c b E w pc lv (.int x :: st) := by
  intro H locs ls hP hD hS hl
  exact lv_tableOut C0.1.1 C0.1.2.1 hd hc ht (h H locs ls hP hD hS hl)
theorem lq_tblIn {dflt lo hi : Int} {offs : Array Int} {len : Nat} {x : Int32} {off : Int} {tgt : Nat} (C0 : Lc E p s m meth c b L xs) (hd : decode code pc = .ok (.tableswitch dflt lo hi offs, len)) (h1 : ¬ x.toInt < lo) (h2 : ¬ hi < x.toInt) (ho : offs[(x.toInt - lo).toNat]? = some off) (ht : (pc : Int) + off = (tgt : Int)) (h : Lw p l e s m below meth c b E w tgt lv st) : Lw p l e s m below meth c b E w pc lv (.int x :: st) := by
  intro H locs ls hP hD hS hl
  exact lv_tableIn C0.1.1 C0.1.2.1 hd h1 h2 ho ht (h H locs ls hP hD hS hl)
theorem lq_iinc {i : Nat} {n : Int} {x v : Int32} {lv' : List (Option Value)} (C0 : Lc E p s m meth c b L xs) (hd : decode code pc = .ok (.iinc i n, 3)) (hx : lv[i]? = some (some (.int x))) (hv : Int32.ofInt n = v) (hn : i < 4) (hok : lok lv i = true) (hlv : (lv.set i (some (.int (x + v)))) = lv') (h : Lw p l e s m below meth c b E w (pc + 3) lv' st) : Lw p l e s m below meth c b E w pc lv st := by
  intro H locs ls hP hD hS hl
  subst hlv
  subst hv
  obtain ⟨k, hk⟩ := List.getElem?_of_mem ((mem_lprs i (.int x) lv 0).mpr ⟨i, hx, by omega⟩)
  exact lv_iinc C0.1.1 C0.1.2.1 hd (lh_has hl) hk rfl hn rfl (fun ls hl2 => h H locs ls hP hD hS (lh_store1 hok hl2))
theorem lq_call {g cl ci N : Nat} {Cn : String} {T : u_T} {fs : (Nat → Int32) → List Value} {y : MethodName} {cc' : ByteArray} {n' np idx : Nat} {ret' : Option FieldType} {rm : Room} {As stk : List Value} {v : Value} {w' : Wd} (C0 : Lc E p s m meth c b L xs) (hd : decode code pc = .ok (.invokevirtual idx, 3)) (hM : Mt l E y cc' n' ret' rm (.ref (E.1 g cl) :: As) w (some v) w') (ho : OB E g cl ci fs) (hc : vwCl[ci]? = some (Cn, T, N)) (hy : CY y cc' n' ret' Cn np) (hlk : Cond.methodLink RL idx y ∈ lw_tbl) (hstk : stk = As.reverse ++ .ref (E.1 g cl) :: st) (hnp : As.length = np) (hro : Rm room_1 rm n') (hst : (st.map fun v => v.category).sum ≤ 8) (h : Lw p l e s m below meth c b E w' (pc + 3) lv (v :: st)) : Lw p l e s m below meth c b E w pc lv stk := by
  intro H locs ls hP hD hS hl
  have tb : ∀ {z : Cond}, z ∈ lw_tbl → z.before #[Value.ref b] s = true := fun h1 => C0.1.2.2.2.2.2.1 _ h1
  have hws : ∀ z ∈ (Cond.code y cc' n' ret' :: gwl), z.before #[Value.ref b] s = true := fun z hz => (List.mem_cons.mp hz).elim (fun e => by rw [e]; exact tb hy.2.2.1) (fun h => tb (List.mem_filter.mp h).1)
  obtain ⟨k0, hk0⟩ := List.getElem?_of_mem ho.1
  have he := wl_at (E := E) (w := w) hk0
  rw [ho.2] at he
  have hrun := va_runV (locs := locs) (below := below) (meth := meth) (e := e) (l := l) (cells := 600000) (slots := 7302250) (R := room_1) (As := As) (rest := st) (g := F0 m pc ls stk) (Ts := .code y cc' n' ret' :: gwl) (own := RL) ⟨C0.1.1, C0.1.2.1, C0.1.2.2.2.1, C0.1.2.2.2.2.1, hws⟩ hM ⟨callB_of np (Ts := .code y cc' n' ret' :: gwl) hws (gw_good hy.2.2.1 rfl) rfl hro.1.1 hro.1.2 (tb hy.2.2.2.1) (tb hlk) hy.2.2.2.2 hro.2, tb hy.1, tb hy.2.1⟩ ⟨Wk.blind, va_recv C0.2.1 hP hc he, fun U hU hW => ⟨rfl, by rw [hU]; exact hP, va_K.moved hW.alike C0.2.1, hD, C0.2.2.1.warm hW⟩⟩ rfl hnp hl.1 hstk (lv_room hst) hd ⟨Nat.le_refl _, Nat.le_refl _⟩
  intro T0 hT X
  obtain ⟨v0, st₀, t, T', L0, h0, X', hL, e1, e2, ⟨hv, hP1, hK1, hD1, hz, hk⟩, st'⟩ := hrun T0 hT X
  cases hv
  rw [h0] at hz hk
  obtain ⟨t2, a1, b1⟩ := h T'.heap (locs ++ L0) ls (by rw [e1]; exact hP1) hD1 ⟨Nat.le_trans hS.1 (by rw [e1]; exact hz), fun q h1 h2 => by rw [e1, hk q (Nat.lt_of_lt_of_le h1 hS.1) (fun z => h2 (C0.2.2.2 q z))]; exact hS.2.1 q h1 h2, fun q hq => by
      rcases List.mem_append.mp hq with h | h
      · exact hS.2.2 q h
      · exact C0.2.2.2 _ (hL q h)⟩ hl T' rfl X'
  exact ⟨t2, st' t2 a1, b1⟩
theorem lq_end (C0 : Lc E p s m meth c b L xs) (hd : decode code pc = .ok (.ireturn, 1)) : Lw p l e s m below meth c b E w pc lv [.int 1] := by
  intro H locs ls hP hD hS hl
  refine va_forget (fun q hq => hS.2.2 q hq) ?_
  exact lw_ret C0.1.1 C0.1.2.1 C0.1.2.2.1 C0.1.2.2.2.2.2.2.2.2.1 hd
end LQ
theorem lg_self (x : Int64) : lg_cmp x x = 0 := by
  rw [lg_cmp, if_neg (Int64.lt_irrefl), if_pos rfl]
