theorem FU_ex : ∃ n : Nat, n = 1000000000000 := ⟨_, rfl⟩
noncomputable def FU : Nat := FU_ex.choose
theorem FU_eq : FU = 1000000000000 := FU_ex.choose_spec
def rmk (h : Nat) : Room := { frames := h, cells := 0, slots := 0, locals := 40 * h }
theorem rm_ok {a b n : Nat} (h : b + 1 ≤ a) (hn : n ≤ 21) : Rm (rmk a) (rmk b) n := ⟨⟨rfl, rfl⟩, h, by show 8 + (n + 11) + 40 * b ≤ 40 * a; omega⟩
def zb (x : Int32) : Bool := decide (x = 0 ∨ x = 1)
def cb (x : Int32) : Bool := decide (vp_nar .char x = x)
def lsub : List (Option Value) → List (Option Value) → Prop
  | [], _ => True
  | none :: a, _ :: b => lsub a b
  | some v :: a, u :: b => u = some v ∧ lsub a b
  | none :: a, [] => lsub a []
  | some _ :: _, [] => False
theorem lsub_at : ∀ {a b : List (Option Value)}, lsub a b → ∀ (i : Nat) (v : Value), a[i]? = some (some v) → b[i]? = some (some v)
  | [], b, _, i, v, hi => by simp at hi
  | none :: a, [], h, 0, v, hi => by simp at hi
  | none :: a, [], h, i + 1, v, hi => by
    have := lsub_at (a := a) (b := []) h i v (by simpa using hi)
    simp at this
  | none :: a, u :: b, h, 0, v, hi => by simp at hi
  | none :: a, u :: b, h, i + 1, v, hi => by simpa using lsub_at (a := a) (b := b) h i v (by simpa using hi)
  | some x :: a, u :: b, h, 0, v, hi => by
    simp at hi
    simp [h.1, hi]
  | some x :: a, u :: b, h, i + 1, v, hi => by simpa using lsub_at (a := a) (b := b) h.2 i v (by simpa using hi)
  | some x :: a, [], h, i, v, hi => h.elim
theorem lsub_s {a b : List (Option Value)} {v : Value} (h : lsub a b) : lsub (some v :: a) (some v :: b) := ⟨rfl, h⟩
theorem lsub_n {a b : List (Option Value)} {u : Option Value} (h : lsub a b) : lsub (none :: a) (u :: b) := h
theorem lsub_0 {b : List (Option Value)} : lsub [] b := trivial
section GM2
variable {α : Type} {l : Launch} {E : En} {cc : ByteArray} {nL : Nat} {own : String} {rt : Option FieldType} {R : Room} {en : α → Option Value} {res A B : Option (α × Wd)} {w : Wd} {pc : Nat} {lv lv' : List (Option Value)} {st : List Value}
theorem gm_weak (hs : lsub lv' lv) (h : Gm l E cc nL own rt R en res w pc lv' st) : Gm l E cc nL own rt R en res w pc lv st := by
  intro q hq p e s m args below meth c H locs ls hC hP hD hS hl
  exact h q hq p e s m args below meth c H locs ls hC hP hD hS ⟨hl.1, hl.2.1, fun i v hv => hl.2.2 i v (lsub_at hs i v hv)⟩
theorem gm_ite {c : Prop} [Decidable c] (h1 : c → Gm l E cc nL own rt R en A w pc lv st) (h2 : ¬ c → Gm l E cc nL own rt R en B w pc lv st) : Gm l E cc nL own rt R en (if c then A else B) w pc lv st := by
  by_cases hc : c
  · rw [if_pos hc]; exact h1 hc
  · rw [if_neg hc]; exact h2 hc
theorem gm_zret_g {x : Int32} (hd : decode cc pc = .ok (.ireturn, 1)) : Gm l E cc nL own (some .boolean) R eI (if zb x = true then some (x, w) else none) w pc lv (.int x :: []) := by
  refine gm_guard (fun h => ?_)
  refine gm_zret hd ?_
  rcases (of_decide_eq_true h : x = 0 ∨ x = 1) with e | e <;> (rw [e]; rfl)
theorem gm_cret_g {x : Int32} (hd : decode cc pc = .ok (.ireturn, 1)) : Gm l E cc nL own (some .char) R eI (if cb x = true then some (x, w) else none) w pc lv (.int x :: []) := by
  refine gm_guard (fun h => ?_)
  refine gm_zret hd ?_
  have h2 : vp_nar .char x = x := of_decide_eq_true h
  show Value.int (vp_nar .char x) = .int x
  rw [h2]
end GM2
theorem tblOut8 {x : Int32} (h0 : ¬ x = 0) (h1 : ¬ x = 1) (h2 : ¬ x = 2) (h3 : ¬ x = 3) (h4 : ¬ x = 4) (h5 : ¬ x = 5) (h6 : ¬ x = 6) (h7 : ¬ x = 7) : x.toInt < 0 ∨ 7 < x.toInt := by
  have k : ∀ {z : Int32} {n : Int}, ¬ x = z → z.toInt = n → ¬ x.toInt = n := fun h e q => h (Int32.toInt_inj.mp (by rw [e]; exact q))
  have a0 := k h0 (show (0 : Int32).toInt = 0 by decide)
  have a1 := k h1 (show (1 : Int32).toInt = 1 by decide)
  have a2 := k h2 (show (2 : Int32).toInt = 2 by decide)
  have a3 := k h3 (show (3 : Int32).toInt = 3 by decide)
  have a4 := k h4 (show (4 : Int32).toInt = 4 by decide)
  have a5 := k h5 (show (5 : Int32).toInt = 5 by decide)
  have a6 := k h6 (show (6 : Int32).toInt = 6 by decide)
  have a7 := k h7 (show (7 : Int32).toInt = 7 by decide)
  omega

theorem pn_X0 : plainName RX0 = true := by decide +kernel
theorem pn_X1 : plainName RX1 = true := by decide +kernel
theorem pn_X10 : plainName RX10 = true := by decide +kernel
theorem pn_X2 : plainName RX2 = true := by decide +kernel
theorem pn_X3 : plainName RX3 = true := by decide +kernel
theorem pn_X4 : plainName RX4 = true := by decide +kernel
theorem pn_X5 : plainName RX5 = true := by decide +kernel
theorem pn_X6 : plainName RX6 = true := by decide +kernel
theorem pn_X7 : plainName RX7 = true := by decide +kernel
theorem pn_X8 : plainName RX8 = true := by decide +kernel
theorem pn_X9 : plainName RX9 = true := by decide +kernel
theorem cy_X0_copyFrom : CY yX0_copyFrom cX0_copyFrom 2 none RX0 1 := ⟨tb_354, tb_355, tb_356, tb_61, ⟨by decide +kernel, by decide +kernel, by decide +kernel⟩⟩
theorem cy_X0_size : CY yX0_size cX0_size 1 (some .int) RX0 0 := ⟨tb_716, tb_717, tb_718, tb_61, ⟨by decide +kernel, by decide +kernel, by decide +kernel⟩⟩
theorem cy_X0_has : CY yX0_has cX0_has 2 (some .boolean) RX0 1 := ⟨tb_623, tb_624, tb_625, tb_61, ⟨by decide +kernel, by decide +kernel, by decide +kernel⟩⟩
theorem cy_X0_freePlace : CY yX0_freePlace cX0_freePlace 2 (some .int) RX0 0 := ⟨tb_485, tb_486, tb_487, tb_61, ⟨by decide +kernel, by decide +kernel, by decide +kernel⟩⟩
theorem cy_X0_isBusy : CY yX0_isBusy cX0_isBusy 3 (some .boolean) RX0 1 := ⟨tb_502, tb_503, tb_504, tb_61, ⟨by decide +kernel, by decide +kernel, by decide +kernel⟩⟩
theorem cy_X0_put : CY yX0_put cX0_put 4 none RX0 3 := ⟨tb_606, tb_607, tb_608, tb_61, ⟨by decide +kernel, by decide +kernel, by decide +kernel⟩⟩
theorem cy_X0_addStep : CY yX0_addStep cX0_addStep 3 none RX0 2 := ⟨tb_619, tb_620, tb_621, tb_61, ⟨by decide +kernel, by decide +kernel, by decide +kernel⟩⟩
theorem cy_X0_remove : CY yX0_remove cX0_remove 2 none RX0 1 := ⟨tb_674, tb_675, tb_676, tb_61, ⟨by decide +kernel, by decide +kernel, by decide +kernel⟩⟩
theorem cy_X0_numberAt : CY yX0_numberAt cX0_numberAt 2 (some .int) RX0 1 := ⟨tb_729, tb_730, tb_731, tb_61, ⟨by decide +kernel, by decide +kernel, by decide +kernel⟩⟩
theorem cy_X0_startOf : CY yX0_startOf cX0_startOf 2 (some .int) RX0 1 := ⟨tb_641, tb_642, tb_643, tb_61, ⟨by decide +kernel, by decide +kernel, by decide +kernel⟩⟩
theorem cy_X0_length : CY yX0_length cX0_length 2 (some .int) RX0 1 := ⟨tb_648, tb_649, tb_650, tb_61, ⟨by decide +kernel, by decide +kernel, by decide +kernel⟩⟩
theorem cy_X0_step : CY yX0_step cX0_step 3 (some .int) RX0 2 := ⟨tb_652, tb_653, tb_654, tb_61, ⟨by decide +kernel, by decide +kernel, by decide +kernel⟩⟩
theorem cy_X1_search : CY yX1_search cX1_search 5 (some .int) RX1 3 := ⟨tb_770, tb_771, tb_772, tb_66, ⟨by decide +kernel, by decide +kernel, by decide +kernel⟩⟩
theorem cy_X1_fill : CY yX1_fill cX1_fill 7 none RX1 3 := ⟨tb_775, tb_8, tb_776, tb_66, ⟨by decide +kernel, by decide +kernel, by decide +kernel⟩⟩
theorem cy_X1_fillSwitch : CY yX1_fillSwitch cX1_fillSwitch 10 none RX1 4 := ⟨tb_783, tb_9, tb_784, tb_66, ⟨by decide +kernel, by decide +kernel, by decide +kernel⟩⟩
theorem cy_X1_costBetween : CY yX1_costBetween cX1_costBetween 5 (some .int) RX1 3 := ⟨tb_806, tb_11, tb_807, tb_66, ⟨by decide +kernel, by decide +kernel, by decide +kernel⟩⟩
theorem cy_X1_arrive : CY yX1_arrive cX1_arrive 10 none RX1 5 := ⟨tb_799, tb_10, tb_800, tb_66, ⟨by decide +kernel, by decide +kernel, by decide +kernel⟩⟩
theorem cy_X2_size : CY yX2_size cX2_size 1 (some .int) RX2 0 := ⟨tb_914, tb_915, tb_916, tb_62, ⟨by decide +kernel, by decide +kernel, by decide +kernel⟩⟩
theorem cy_X2_stateAt : CY yX2_stateAt cX2_stateAt 2 (some (.object "CallRouter$Network")) RX2 1 := ⟨tb_331, tb_0, tb_332, tb_62, ⟨by decide +kernel, by decide +kernel, by decide +kernel⟩⟩
theorem cy_X2_push : CY yX2_push cX2_push 3 none RX2 1 := ⟨tb_326, tb_327, tb_328, tb_62, ⟨by decide +kernel, by decide +kernel, by decide +kernel⟩⟩
theorem cy_X2_pop : CY yX2_pop cX2_pop 3 (some .boolean) RX2 1 := ⟨tb_910, tb_911, tb_912, tb_62, ⟨by decide +kernel, by decide +kernel, by decide +kernel⟩⟩
theorem cy_X3_trace : CY yX3_trace cX3_trace 1 (some (.object "CallRouter$Trace")) RX3 0 := ⟨tb_745, tb_746, tb_747, tb_64, ⟨by decide +kernel, by decide +kernel, by decide +kernel⟩⟩
theorem cy_X3_number : CY yX3_number cX3_number 1 (some .int) RX3 0 := ⟨tb_602, tb_603, tb_604, tb_64, ⟨by decide +kernel, by decide +kernel, by decide +kernel⟩⟩
theorem cy_X3_length : CY yX3_length cX3_length 1 (some .int) RX3 0 := ⟨tb_611, tb_612, tb_613, tb_64, ⟨by decide +kernel, by decide +kernel, by decide +kernel⟩⟩
theorem cy_X3_step : CY yX3_step cX3_step 2 (some .int) RX3 1 := ⟨tb_615, tb_616, tb_617, tb_64, ⟨by decide +kernel, by decide +kernel, by decide +kernel⟩⟩
theorem cy_X3_start : CY yX3_start cX3_start 4 (some .int) RX3 3 := ⟨tb_489, tb_490, tb_491, tb_64, ⟨by decide +kernel, by decide +kernel, by decide +kernel⟩⟩
theorem cy_X3_arrive : CY yX3_arrive cX3_arrive 7 (some .int) RX3 4 := ⟨tb_511, tb_2, tb_512, tb_64, ⟨by decide +kernel, by decide +kernel, by decide +kernel⟩⟩
theorem cy_X3_tryRoutes : CY yX3_tryRoutes cX3_tryRoutes 10 (some .int) RX3 4 := ⟨tb_530, tb_3, tb_531, tb_64, ⟨by decide +kernel, by decide +kernel, by decide +kernel⟩⟩
theorem cy_X3_tryRoute : CY yX3_tryRoute cX3_tryRoute 9 (some .int) RX3 4 := ⟨tb_563, tb_5, tb_564, tb_64, ⟨by decide +kernel, by decide +kernel, by decide +kernel⟩⟩
theorem cy_X4_copyFrom : CY yX4_copyFrom cX4_copyFrom 2 none RX4 1 := ⟨tb_337, tb_338, tb_339, tb_58, ⟨by decide +kernel, by decide +kernel, by decide +kernel⟩⟩
theorem cy_X4_routeRows : CY yX4_routeRows cX4_routeRows 1 (some (.object "CallRouter$Routes")) RX4 0 := ⟨tb_413, tb_414, tb_415, tb_58, ⟨by decide +kernel, by decide +kernel, by decide +kernel⟩⟩
theorem cy_X4_portRows : CY yX4_portRows cX4_portRows 1 (some (.object "CallRouter$Ports")) RX4 0 := ⟨tb_459, tb_460, tb_461, tb_58, ⟨by decide +kernel, by decide +kernel, by decide +kernel⟩⟩
theorem cy_X4_callRows : CY yX4_callRows cX4_callRows 1 (some (.object "CallRouter$Calls")) RX4 0 := ⟨tb_481, tb_482, tb_483, tb_58, ⟨by decide +kernel, by decide +kernel, by decide +kernel⟩⟩
theorem cy_X4_switchCount : CY yX4_switchCount cX4_switchCount 1 (some .int) RX4 0 := ⟨tb_322, tb_323, tb_324, tb_58, ⟨by decide +kernel, by decide +kernel, by decide +kernel⟩⟩
theorem cy_X4_hopLimit : CY yX4_hopLimit cX4_hopLimit 1 (some .int) RX4 0 := ⟨tb_520, tb_521, tb_522, tb_58, ⟨by decide +kernel, by decide +kernel, by decide +kernel⟩⟩
theorem cy_X4_minutes : CY yX4_minutes cX4_minutes 1 (some .int) RX4 0 := ⟨tb_493, tb_494, tb_495, tb_58, ⟨by decide +kernel, by decide +kernel, by decide +kernel⟩⟩
theorem cy_X4_hasSwitch : CY yX4_hasSwitch cX4_hasSwitch 2 (some .boolean) RX4 1 := ⟨tb_367, tb_368, tb_369, tb_58, ⟨by decide +kernel, by decide +kernel, by decide +kernel⟩⟩
theorem cy_X4_putSwitch : CY yX4_putSwitch cX4_putSwitch 2 (some .int) RX4 0 := ⟨tb_359, tb_360, tb_361, tb_58, ⟨by decide +kernel, by decide +kernel, by decide +kernel⟩⟩
theorem cy_X4_looksUp : CY yX4_looksUp cX4_looksUp 2 (some .boolean) RX4 1 := ⟨tb_371, tb_372, tb_373, tb_58, ⟨by decide +kernel, by decide +kernel, by decide +kernel⟩⟩
theorem cy_X4_changeLookup : CY yX4_changeLookup cX4_changeLookup 3 none RX4 2 := ⟨tb_376, tb_377, tb_378, tb_58, ⟨by decide +kernel, by decide +kernel, by decide +kernel⟩⟩
theorem cy_X4_changeCodes : CY yX4_changeCodes cX4_changeCodes 4 (some .int) RX4 2 := ⟨tb_387, tb_388, tb_389, tb_58, ⟨by decide +kernel, by decide +kernel, by decide +kernel⟩⟩
theorem cy_X4_goesOn : CY yX4_goesOn cX4_goesOn 3 (some .boolean) RX4 2 := ⟨tb_594, tb_595, tb_596, tb_58, ⟨by decide +kernel, by decide +kernel, by decide +kernel⟩⟩
theorem cy_X4_changeLimit : CY yX4_changeLimit cX4_changeLimit 3 (some .int) RX4 1 := ⟨tb_395, tb_396, tb_397, tb_58, ⟨by decide +kernel, by decide +kernel, by decide +kernel⟩⟩
theorem cy_X4_letPass : CY yX4_letPass cX4_letPass 2 (some .int) RX4 1 := ⟨tb_684, tb_685, tb_686, tb_58, ⟨by decide +kernel, by decide +kernel, by decide +kernel⟩⟩
theorem cy_X4_routeRefusal : CY yX4_routeRefusal cX4_routeRefusal 6 (some .int) RX4 5 := ⟨tb_403, tb_404, tb_405, tb_58, ⟨by decide +kernel, by decide +kernel, by decide +kernel⟩⟩
theorem cy_X4_portRefusal : CY yX4_portRefusal cX4_portRefusal 4 (some .int) RX4 2 := ⟨tb_439, tb_440, tb_441, tb_58, ⟨by decide +kernel, by decide +kernel, by decide +kernel⟩⟩
theorem cy_X4_markAt : CY yX4_markAt cX4_markAt 4 (some .int) RX4 3 := ⟨tb_524, tb_525, tb_526, tb_58, ⟨by decide +kernel, by decide +kernel, by decide +kernel⟩⟩
theorem cy_X4_connect : CY yX4_connect cX4_connect 5 none RX4 2 := ⟨tb_598, tb_599, tb_600, tb_58, ⟨by decide +kernel, by decide +kernel, by decide +kernel⟩⟩
theorem cy_X4_settle : CY yX4_settle cX4_settle 6 (some .int) RX4 1 := ⟨tb_637, tb_638, tb_639, tb_58, ⟨by decide +kernel, by decide +kernel, by decide +kernel⟩⟩
theorem cy_X4_settleStep : CY yX4_settleStep cX4_settleStep 5 (some .int) RX4 3 := ⟨tb_659, tb_6, tb_660, tb_58, ⟨by decide +kernel, by decide +kernel, by decide +kernel⟩⟩
theorem cy_X4_addDebt : CY yX4_addDebt cX4_addDebt 4 none RX4 3 := ⟨tb_671, tb_7, tb_672, tb_58, ⟨by decide +kernel, by decide +kernel, by decide +kernel⟩⟩
theorem cy_X4_debt : CY yX4_debt cX4_debt 3 (some .int) RX4 2 := ⟨tb_737, tb_738, tb_739, tb_58, ⟨by decide +kernel, by decide +kernel, by decide +kernel⟩⟩
theorem cy_X4_foldDebts : CY yX4_foldDebts cX4_foldDebts 7 (some .long) RX4 1 := ⟨tb_933, tb_934, tb_935, tb_58, ⟨by decide +kernel, by decide +kernel, by decide +kernel⟩⟩
theorem cy_X5_copyFrom : CY yX5_copyFrom cX5_copyFrom 2 none RX5 1 := ⟨tb_349, tb_350, tb_351, tb_60, ⟨by decide +kernel, by decide +kernel, by decide +kernel⟩⟩
theorem cy_X5_size : CY yX5_size cX5_size 1 (some .int) RX5 0 := ⟨tb_455, tb_456, tb_457, tb_60, ⟨by decide +kernel, by decide +kernel, by decide +kernel⟩⟩
theorem cy_X5_indexOf : CY yX5_indexOf cX5_indexOf 3 (some .int) RX5 1 := ⟨tb_452, tb_1, tb_453, tb_60, ⟨by decide +kernel, by decide +kernel, by decide +kernel⟩⟩
theorem cy_X5_switchOf : CY yX5_switchOf cX5_switchOf 3 (some .int) RX5 1 := ⟨tb_447, tb_448, tb_449, tb_60, ⟨by decide +kernel, by decide +kernel, by decide +kernel⟩⟩
theorem cy_X5_put : CY yX5_put cX5_put 5 (some .int) RX5 2 := ⟨tb_463, tb_464, tb_465, tb_60, ⟨by decide +kernel, by decide +kernel, by decide +kernel⟩⟩
theorem cy_X5_remove : CY yX5_remove cX5_remove 4 (some .int) RX5 1 := ⟨tb_473, tb_474, tb_475, tb_60, ⟨by decide +kernel, by decide +kernel, by decide +kernel⟩⟩
theorem cy_X6_copyFrom : CY yX6_copyFrom cX6_copyFrom 2 none RX6 1 := ⟨tb_344, tb_345, tb_346, tb_59, ⟨by decide +kernel, by decide +kernel, by decide +kernel⟩⟩
theorem cy_X6_size : CY yX6_size cX6_size 1 (some .int) RX6 0 := ⟨tb_409, tb_410, tb_411, tb_59, ⟨by decide +kernel, by decide +kernel, by decide +kernel⟩⟩
theorem cy_X6_has : CY yX6_has cX6_has 2 (some .boolean) RX6 1 := ⟨tb_425, tb_426, tb_427, tb_59, ⟨by decide +kernel, by decide +kernel, by decide +kernel⟩⟩
theorem cy_X6_put : CY yX6_put cX6_put 8 (some .int) RX6 5 := ⟨tb_417, tb_418, tb_419, tb_59, ⟨by decide +kernel, by decide +kernel, by decide +kernel⟩⟩
theorem cy_X6_switchOf : CY yX6_switchOf cX6_switchOf 2 (some .int) RX6 1 := ⟨tb_582, tb_583, tb_584, tb_59, ⟨by decide +kernel, by decide +kernel, by decide +kernel⟩⟩
theorem cy_X6_nextOf : CY yX6_nextOf cX6_nextOf 2 (some .int) RX6 1 := ⟨tb_578, tb_579, tb_580, tb_59, ⟨by decide +kernel, by decide +kernel, by decide +kernel⟩⟩
theorem cy_X6_serves : CY yX6_serves cX6_serves 2 (some .boolean) RX6 1 := ⟨tb_570, tb_571, tb_572, tb_59, ⟨by decide +kernel, by decide +kernel, by decide +kernel⟩⟩
theorem cy_X6_costOf : CY yX6_costOf cX6_costOf 4 (some .int) RX6 2 := ⟨tb_558, tb_559, tb_560, tb_59, ⟨by decide +kernel, by decide +kernel, by decide +kernel⟩⟩
theorem cy_X6_changeCost : CY yX6_changeCost cX6_changeCost 5 (some .int) RX6 3 := ⟨tb_429, tb_430, tb_431, tb_59, ⟨by decide +kernel, by decide +kernel, by decide +kernel⟩⟩
theorem cy_X6_hasFreeLine : CY yX6_hasFreeLine cX6_hasFreeLine 2 (some .boolean) RX6 1 := ⟨tb_574, tb_575, tb_576, tb_59, ⟨by decide +kernel, by decide +kernel, by decide +kernel⟩⟩
theorem cy_X6_occupy : CY yX6_occupy cX6_occupy 2 none RX6 1 := ⟨tb_627, tb_628, tb_629, tb_59, ⟨by decide +kernel, by decide +kernel, by decide +kernel⟩⟩
theorem cy_X6_release : CY yX6_release cX6_release 2 none RX6 1 := ⟨tb_664, tb_665, tb_666, tb_59, ⟨by decide +kernel, by decide +kernel, by decide +kernel⟩⟩
theorem cy_X6_numberOf : CY yX6_numberOf cX6_numberOf 3 (some .int) RX6 2 := ⟨tb_701, tb_702, tb_703, tb_59, ⟨by decide +kernel, by decide +kernel, by decide +kernel⟩⟩
theorem cy_X6_longestPrefix : CY yX6_longestPrefix cX6_longestPrefix 7 (some .int) RX6 2 := ⟨tb_539, tb_540, tb_541, tb_59, ⟨by decide +kernel, by decide +kernel, by decide +kernel⟩⟩
theorem cy_X6_belongs : CY yX6_belongs cX6_belongs 4 (some .boolean) RX6 3 := ⟨tb_550, tb_551, tb_552, tb_59, ⟨by decide +kernel, by decide +kernel, by decide +kernel⟩⟩
theorem cy_X6_choiceAfter : CY yX6_choiceAfter cX6_choiceAfter 7 (some .int) RX6 4 := ⟨tb_546, tb_547, tb_548, tb_59, ⟨by decide +kernel, by decide +kernel, by decide +kernel⟩⟩
theorem cy_X6_isBefore : CY yX6_isBefore cX6_isBefore 6 (some .boolean) RX6 3 := ⟨tb_555, tb_4, tb_556, tb_59, ⟨by decide +kernel, by decide +kernel, by decide +kernel⟩⟩
theorem cy_X6_fold : CY yX6_fold cX6_fold 7 (some .long) RX6 1 := ⟨tb_925, tb_926, tb_927, tb_59, ⟨by decide +kernel, by decide +kernel, by decide +kernel⟩⟩
theorem cy_X7_size : CY yX7_size cX7_size 1 (some .int) RX7 0 := ⟨tb_817, tb_818, tb_819, tb_63, ⟨by decide +kernel, by decide +kernel, by decide +kernel⟩⟩
theorem cy_X7_empty : CY yX7_empty cX7_empty 1 none RX7 0 := ⟨tb_825, tb_826, tb_827, tb_63, ⟨by decide +kernel, by decide +kernel, by decide +kernel⟩⟩
theorem cy_X7_append : CY yX7_append cX7_append 2 (some .boolean) RX7 1 := ⟨tb_813, tb_814, tb_815, tb_63, ⟨by decide +kernel, by decide +kernel, by decide +kernel⟩⟩
theorem cy_X7_commandCount : CY yX7_commandCount cX7_commandCount 1 (some .int) RX7 0 := ⟨tb_878, tb_879, tb_880, tb_63, ⟨by decide +kernel, by decide +kernel, by decide +kernel⟩⟩
theorem cy_X7_errorPlace : CY yX7_errorPlace cX7_errorPlace 1 (some .int) RX7 0 := ⟨tb_873, tb_874, tb_875, tb_63, ⟨by decide +kernel, by decide +kernel, by decide +kernel⟩⟩
theorem cy_X7_parse : CY yX7_parse cX7_parse 2 (some .boolean) RX7 0 := ⟨tb_833, tb_834, tb_835, tb_63, ⟨by decide +kernel, by decide +kernel, by decide +kernel⟩⟩
theorem cy_X7_sign : CY yX7_sign cX7_sign 1 (some .char) RX7 0 := ⟨tb_842, tb_13, tb_843, tb_63, ⟨by decide +kernel, by decide +kernel, by decide +kernel⟩⟩
theorem cy_X7_skip : CY yX7_skip cX7_skip 2 (some .boolean) RX7 1 := ⟨tb_846, tb_14, tb_847, tb_63, ⟨by decide +kernel, by decide +kernel, by decide +kernel⟩⟩
theorem cy_X7_isDigit : CY yX7_isDigit cX7_isDigit 1 (some .boolean) RX7 0 := ⟨tb_862, tb_18, tb_863, tb_63, ⟨by decide +kernel, by decide +kernel, by decide +kernel⟩⟩
theorem cy_X7_readDigit : CY yX7_readDigit cX7_readDigit 2 (some .int) RX7 0 := ⟨tb_858, tb_17, tb_859, tb_63, ⟨by decide +kernel, by decide +kernel, by decide +kernel⟩⟩
theorem cy_X7_readDigits : CY yX7_readDigits cX7_readDigits 4 (some .int) RX7 1 := ⟨tb_866, tb_19, tb_867, tb_63, ⟨by decide +kernel, by decide +kernel, by decide +kernel⟩⟩
theorem cy_X7_readCommand : CY yX7_readCommand cX7_readCommand 2 (some .boolean) RX7 1 := ⟨tb_838, tb_12, tb_839, tb_63, ⟨by decide +kernel, by decide +kernel, by decide +kernel⟩⟩
theorem cy_X7_readSwitch : CY yX7_readSwitch cX7_readSwitch 2 (some .boolean) RX7 1 := ⟨tb_854, tb_16, tb_855, tb_63, ⟨by decide +kernel, by decide +kernel, by decide +kernel⟩⟩
theorem cy_X7_readRoute : CY yX7_readRoute cX7_readRoute 2 (some .boolean) RX7 1 := ⟨tb_850, tb_15, tb_851, tb_63, ⟨by decide +kernel, by decide +kernel, by decide +kernel⟩⟩
theorem cy_X7_readPort : CY yX7_readPort cX7_readPort 2 (some .boolean) RX7 1 := ⟨tb_870, tb_20, tb_871, tb_63, ⟨by decide +kernel, by decide +kernel, by decide +kernel⟩⟩
theorem cy_X7_carryOut : CY yX7_carryOut cX7_carryOut 3 (some .boolean) RX7 2 := ⟨tb_882, tb_883, tb_884, tb_63, ⟨by decide +kernel, by decide +kernel, by decide +kernel⟩⟩
theorem cy_X7_putRoute : CY yX7_putRoute cX7_putRoute 5 (some .boolean) RX7 2 := ⟨tb_887, tb_21, tb_888, tb_63, ⟨by decide +kernel, by decide +kernel, by decide +kernel⟩⟩
theorem cy_X7_putPort : CY yX7_putPort cX7_putPort 3 (some .boolean) RX7 2 := ⟨tb_894, tb_22, tb_895, tb_63, ⟨by decide +kernel, by decide +kernel, by decide +kernel⟩⟩
theorem cy_X7_letLookUp : CY yX7_letLookUp cX7_letLookUp 3 (some .boolean) RX7 2 := ⟨tb_901, tb_23, tb_902, tb_63, ⟨by decide +kernel, by decide +kernel, by decide +kernel⟩⟩
theorem cy_X8_size : CY yX8_size cX8_size 1 (some .int) RX8 0 := ⟨tb_749, tb_750, tb_751, tb_65, ⟨by decide +kernel, by decide +kernel, by decide +kernel⟩⟩
theorem cy_X8_has : CY yX8_has cX8_has 2 (some .boolean) RX8 1 := ⟨tb_590, tb_591, tb_592, tb_65, ⟨by decide +kernel, by decide +kernel, by decide +kernel⟩⟩
theorem cy_X8_empty : CY yX8_empty cX8_empty 1 none RX8 0 := ⟨tb_506, tb_507, tb_508, tb_65, ⟨by decide +kernel, by decide +kernel, by decide +kernel⟩⟩
theorem cy_X8_begin : CY yX8_begin cX8_begin 2 (some .int) RX8 1 := ⟨tb_566, tb_567, tb_568, tb_65, ⟨by decide +kernel, by decide +kernel, by decide +kernel⟩⟩
theorem cy_X8_finish : CY yX8_finish cX8_finish 3 none RX8 2 := ⟨tb_586, tb_587, tb_588, tb_65, ⟨by decide +kernel, by decide +kernel, by decide +kernel⟩⟩
theorem cy_X8_routeAt : CY yX8_routeAt cX8_routeAt 2 (some .int) RX8 1 := ⟨tb_758, tb_759, tb_760, tb_65, ⟨by decide +kernel, by decide +kernel, by decide +kernel⟩⟩
theorem cy_X8_codeAt : CY yX8_codeAt cX8_codeAt 2 (some .int) RX8 1 := ⟨tb_762, tb_763, tb_764, tb_65, ⟨by decide +kernel, by decide +kernel, by decide +kernel⟩⟩
theorem cy_X9_addSwitch : CY yX9_addSwitch cX9_addSwitch 1 (some .int) RX9 0 := ⟨tb_318, tb_319, tb_320, tb_57, ⟨by decide +kernel, by decide +kernel, by decide +kernel⟩⟩
theorem cy_X9_setLookup : CY yX9_setLookup cX9_setLookup 4 (some .int) RX9 2 := ⟨tb_363, tb_364, tb_365, tb_57, ⟨by decide +kernel, by decide +kernel, by decide +kernel⟩⟩
theorem cy_X9_setCodes : CY yX9_setCodes cX9_setCodes 3 (some .int) RX9 2 := ⟨tb_380, tb_381, tb_382, tb_57, ⟨by decide +kernel, by decide +kernel, by decide +kernel⟩⟩
theorem cy_X9_setLimit : CY yX9_setLimit cX9_setLimit 2 (some .int) RX9 1 := ⟨tb_391, tb_392, tb_393, tb_57, ⟨by decide +kernel, by decide +kernel, by decide +kernel⟩⟩
theorem cy_X9_addRoute : CY yX9_addRoute cX9_addRoute 7 (some .int) RX9 5 := ⟨tb_399, tb_400, tb_401, tb_57, ⟨by decide +kernel, by decide +kernel, by decide +kernel⟩⟩
theorem cy_X9_setCost : CY yX9_setCost cX9_setCost 4 (some .int) RX9 3 := ⟨tb_421, tb_422, tb_423, tb_57, ⟨by decide +kernel, by decide +kernel, by decide +kernel⟩⟩
theorem cy_X9_port : CY yX9_port cX9_port 4 (some .int) RX9 2 := ⟨tb_435, tb_436, tb_437, tb_57, ⟨by decide +kernel, by decide +kernel, by decide +kernel⟩⟩
theorem cy_X9_unport : CY yX9_unport cX9_unport 2 (some .int) RX9 1 := ⟨tb_467, tb_468, tb_469, tb_57, ⟨by decide +kernel, by decide +kernel, by decide +kernel⟩⟩
theorem cy_X9_call : CY yX9_call cX9_call 5 (some .int) RX9 2 := ⟨tb_477, tb_478, tb_479, tb_57, ⟨by decide +kernel, by decide +kernel, by decide +kernel⟩⟩
theorem cy_X9_end : CY yX9_end cX9_end 2 (some .int) RX9 1 := ⟨tb_632, tb_633, tb_634, tb_57, ⟨by decide +kernel, by decide +kernel, by decide +kernel⟩⟩
theorem cy_X9_pass : CY yX9_pass cX9_pass 2 (some .int) RX9 1 := ⟨tb_678, tb_679, tb_680, tb_57, ⟨by decide +kernel, by decide +kernel, by decide +kernel⟩⟩
theorem cy_X9_time : CY yX9_time cX9_time 1 (some .int) RX9 0 := ⟨tb_688, tb_689, tb_690, tb_57, ⟨by decide +kernel, by decide +kernel, by decide +kernel⟩⟩
theorem cy_X9_band : CY yX9_band cX9_band 1 (some .int) RX9 0 := ⟨tb_692, tb_693, tb_694, tb_57, ⟨by decide +kernel, by decide +kernel, by decide +kernel⟩⟩
theorem cy_X9_route : CY yX9_route cX9_route 3 (some .int) RX9 2 := ⟨tb_697, tb_698, tb_699, tb_57, ⟨by decide +kernel, by decide +kernel, by decide +kernel⟩⟩
theorem cy_X9_choice : CY yX9_choice cX9_choice 9 (some .int) RX9 3 := ⟨tb_705, tb_706, tb_707, tb_57, ⟨by decide +kernel, by decide +kernel, by decide +kernel⟩⟩
theorem cy_X9_calls : CY yX9_calls cX9_calls 1 (some .int) RX9 0 := ⟨tb_712, tb_713, tb_714, tb_57, ⟨by decide +kernel, by decide +kernel, by decide +kernel⟩⟩
theorem cy_X9_way : CY yX9_way cX9_way 3 (some .int) RX9 2 := ⟨tb_720, tb_721, tb_722, tb_57, ⟨by decide +kernel, by decide +kernel, by decide +kernel⟩⟩
theorem cy_X9_called : CY yX9_called cX9_called 2 (some .int) RX9 1 := ⟨tb_725, tb_726, tb_727, tb_57, ⟨by decide +kernel, by decide +kernel, by decide +kernel⟩⟩
theorem cy_X9_owes : CY yX9_owes cX9_owes 3 (some .int) RX9 2 := ⟨tb_733, tb_734, tb_735, tb_57, ⟨by decide +kernel, by decide +kernel, by decide +kernel⟩⟩
theorem cy_X9_attempts : CY yX9_attempts cX9_attempts 1 (some .int) RX9 0 := ⟨tb_741, tb_742, tb_743, tb_57, ⟨by decide +kernel, by decide +kernel, by decide +kernel⟩⟩
theorem cy_X9_attempt : CY yX9_attempt cX9_attempt 4 (some .int) RX9 2 := ⟨tb_753, tb_754, tb_755, tb_57, ⟨by decide +kernel, by decide +kernel, by decide +kernel⟩⟩
theorem cy_X9_cheapest : CY yX9_cheapest cX9_cheapest 3 (some .int) RX9 2 := ⟨tb_766, tb_767, tb_768, tb_57, ⟨by decide +kernel, by decide +kernel, by decide +kernel⟩⟩
theorem cy_X9_type : CY yX9_type cX9_type 2 (some .int) RX9 1 := ⟨tb_809, tb_810, tb_811, tb_57, ⟨by decide +kernel, by decide +kernel, by decide +kernel⟩⟩
theorem cy_X9_clear : CY yX9_clear cX9_clear 2 (some .int) RX9 0 := ⟨tb_821, tb_822, tb_823, tb_57, ⟨by decide +kernel, by decide +kernel, by decide +kernel⟩⟩
theorem cy_X9_run : CY yX9_run cX9_run 3 (some .int) RX9 0 := ⟨tb_829, tb_830, tb_831, tb_57, ⟨by decide +kernel, by decide +kernel, by decide +kernel⟩⟩
theorem cy_X9_undo : CY yX9_undo cX9_undo 1 (some .int) RX9 0 := ⟨tb_906, tb_907, tb_908, tb_57, ⟨by decide +kernel, by decide +kernel, by decide +kernel⟩⟩
theorem cy_X9_fingerprint : CY yX9_fingerprint cX9_fingerprint 3 (some .long) RX9 0 := ⟨tb_918, tb_919, tb_920, tb_57, ⟨by decide +kernel, by decide +kernel, by decide +kernel⟩⟩
theorem cy_X9_inRange : CS yX9_inRange cX9_inRange 3 (some .boolean) 3 := ⟨tb_384, tb_385, tb_57, ⟨by decide +kernel, by decide +kernel, by decide +kernel⟩⟩
theorem cy_X9_isNumber : CS yX9_isNumber cX9_isNumber 1 (some .boolean) 1 := ⟨tb_443, tb_444, tb_57, ⟨by decide +kernel, by decide +kernel, by decide +kernel⟩⟩
theorem cy_X9_bandOf : CS yX9_bandOf cX9_bandOf 2 (some .int) 1 := ⟨tb_497, tb_498, tb_57, ⟨by decide +kernel, by decide +kernel, by decide +kernel⟩⟩
theorem cy_X9_digitsOf : CS yX9_digitsOf cX9_digitsOf 5 (some .long) 2 := ⟨tb_534, tb_535, tb_57, ⟨by decide +kernel, by decide +kernel, by decide +kernel⟩⟩
theorem cy_X9_beginsWith : CS yX9_beginsWith cX9_beginsWith 6 (some .boolean) 2 := ⟨tb_543, tb_544, tb_57, ⟨by decide +kernel, by decide +kernel, by decide +kernel⟩⟩
theorem cy_X10_in : CS yX10_in cX10_in 3 (some .boolean) 3 := ⟨tb_1034, tb_1035, tb_67, ⟨by decide +kernel, by decide +kernel, by decide +kernel⟩⟩
theorem cy_X10_keeps : CY yX10_keeps cX10_keeps 3 none RX10 1 := ⟨tb_1023, tb_24, tb_1024, tb_67, ⟨by decide +kernel, by decide +kernel, by decide +kernel⟩⟩
theorem cy_X10_copies : CS yX10_copies cX10_copies 3 none 2 := ⟨tb_1089, tb_1090, tb_67, ⟨by decide +kernel, by decide +kernel, by decide +kernel⟩⟩
theorem cy_X10_sets : CY yX10_sets cX10_sets 4 (some .int) RX10 2 := ⟨tb_1038, tb_26, tb_1039, tb_67, ⟨by decide +kernel, by decide +kernel, by decide +kernel⟩⟩
theorem cy_X10_isSwitch : CY yX10_isSwitch cX10_isSwitch 2 (some .boolean) RX10 1 := ⟨tb_1031, tb_25, tb_1032, tb_67, ⟨by decide +kernel, by decide +kernel, by decide +kernel⟩⟩
theorem cy_X10_isNumber : CS yX10_isNumber cX10_isNumber 1 (some .boolean) 1 := ⟨tb_1070, tb_1071, tb_67, ⟨by decide +kernel, by decide +kernel, by decide +kernel⟩⟩
theorem cy_X10_of : CY yX10_of cX10_of 3 (some .int) RX10 2 := ⟨tb_1116, tb_36, tb_1117, tb_67, ⟨by decide +kernel, by decide +kernel, by decide +kernel⟩⟩
theorem cy_X10_serves : CY yX10_serves cX10_serves 2 (some .boolean) RX10 1 := ⟨tb_1140, tb_42, tb_1141, tb_67, ⟨by decide +kernel, by decide +kernel, by decide +kernel⟩⟩
theorem cy_X10_costOf : CY yX10_costOf cX10_costOf 3 (some .int) RX10 2 := ⟨tb_1164, tb_47, tb_1165, tb_67, ⟨by decide +kernel, by decide +kernel, by decide +kernel⟩⟩
theorem cy_X10_addSwitch : CY yX10_addSwitch cX10_addSwitch 1 (some .int) RX10 0 := ⟨tb_1018, tb_1019, tb_1020, tb_67, ⟨by decide +kernel, by decide +kernel, by decide +kernel⟩⟩
theorem cy_X10_setLookup : CY yX10_setLookup cX10_setLookup 3 (some .int) RX10 2 := ⟨tb_1026, tb_1027, tb_1028, tb_67, ⟨by decide +kernel, by decide +kernel, by decide +kernel⟩⟩
theorem cy_X10_setCodes : CY yX10_setCodes cX10_setCodes 3 (some .int) RX10 2 := ⟨tb_1041, tb_1042, tb_1043, tb_67, ⟨by decide +kernel, by decide +kernel, by decide +kernel⟩⟩
theorem cy_X10_setLimit : CY yX10_setLimit cX10_setLimit 2 (some .int) RX10 1 := ⟨tb_1045, tb_1046, tb_1047, tb_67, ⟨by decide +kernel, by decide +kernel, by decide +kernel⟩⟩
theorem cy_X10_isRoute : CY yX10_isRoute cX10_isRoute 6 (some .boolean) RX10 5 := ⟨tb_1054, tb_27, tb_1055, tb_67, ⟨by decide +kernel, by decide +kernel, by decide +kernel⟩⟩
theorem cy_X10_routes : CY yX10_routes cX10_routes 7 none RX10 5 := ⟨tb_1059, tb_28, tb_1060, tb_67, ⟨by decide +kernel, by decide +kernel, by decide +kernel⟩⟩
theorem cy_X10_addRoute : CY yX10_addRoute cX10_addRoute 6 (some .int) RX10 5 := ⟨tb_1049, tb_1050, tb_1051, tb_67, ⟨by decide +kernel, by decide +kernel, by decide +kernel⟩⟩
theorem cy_X10_setCost : CY yX10_setCost cX10_setCost 4 (some .int) RX10 3 := ⟨tb_1062, tb_1063, tb_1064, tb_67, ⟨by decide +kernel, by decide +kernel, by decide +kernel⟩⟩
theorem cy_X10_portOf : CY yX10_portOf cX10_portOf 3 (some .int) RX10 1 := ⟨tb_1074, tb_29, tb_1075, tb_67, ⟨by decide +kernel, by decide +kernel, by decide +kernel⟩⟩
theorem cy_X10_ports : CY yX10_ports cX10_ports 5 (some .int) RX10 2 := ⟨tb_1078, tb_30, tb_1079, tb_67, ⟨by decide +kernel, by decide +kernel, by decide +kernel⟩⟩
theorem cy_X10_port : CY yX10_port cX10_port 3 (some .int) RX10 2 := ⟨tb_1066, tb_1067, tb_1068, tb_67, ⟨by decide +kernel, by decide +kernel, by decide +kernel⟩⟩
theorem cy_X10_unport : CY yX10_unport cX10_unport 4 (some .int) RX10 1 := ⟨tb_1081, tb_1082, tb_1083, tb_67, ⟨by decide +kernel, by decide +kernel, by decide +kernel⟩⟩
theorem cy_X10_lengthOf : CS yX10_lengthOf cX10_lengthOf 3 (some .int) 1 := ⟨tb_1108, tb_1109, tb_67, ⟨by decide +kernel, by decide +kernel, by decide +kernel⟩⟩
theorem cy_X10_spells : CY yX10_spells cX10_spells 5 none RX10 1 := ⟨tb_1105, tb_34, tb_1106, tb_67, ⟨by decide +kernel, by decide +kernel, by decide +kernel⟩⟩
theorem cy_X10_dials : CY yX10_dials cX10_dials 3 none RX10 2 := ⟨tb_1101, tb_33, tb_1102, tb_67, ⟨by decide +kernel, by decide +kernel, by decide +kernel⟩⟩
theorem cy_X10_begins : CY yX10_begins cX10_begins 6 (some .boolean) RX10 1 := ⟨tb_1120, tb_37, tb_1121, tb_67, ⟨by decide +kernel, by decide +kernel, by decide +kernel⟩⟩
theorem cy_X10_bandOf : CY yX10_bandOf cX10_bandOf 3 (some .int) RX10 1 := ⟨tb_1124, tb_38, tb_1125, tb_67, ⟨by decide +kernel, by decide +kernel, by decide +kernel⟩⟩
theorem cy_X10_gathers : CY yX10_gathers cX10_gathers 8 (some .int) RX10 2 := ⟨tb_1112, tb_35, tb_1113, tb_67, ⟨by decide +kernel, by decide +kernel, by decide +kernel⟩⟩
theorem cy_X10_isBusy : CY yX10_isBusy cX10_isBusy 4 (some .boolean) RX10 1 := ⟨tb_1128, tb_39, tb_1129, tb_67, ⟨by decide +kernel, by decide +kernel, by decide +kernel⟩⟩
theorem cy_X10_arrives : CY yX10_arrives cX10_arrives 8 (some .int) RX10 3 := ⟨tb_1097, tb_32, tb_1098, tb_67, ⟨by decide +kernel, by decide +kernel, by decide +kernel⟩⟩
theorem cy_X10_atHand : CY yX10_atHand cX10_atHand 1 (some .int) RX10 0 := ⟨tb_1136, tb_41, tb_1137, tb_67, ⟨by decide +kernel, by decide +kernel, by decide +kernel⟩⟩
theorem cy_X10_tries : CY yX10_tries cX10_tries 5 (some .int) RX10 1 := ⟨tb_1132, tb_40, tb_1133, tb_67, ⟨by decide +kernel, by decide +kernel, by decide +kernel⟩⟩
theorem cy_X10_settles : CY yX10_settles cX10_settles 4 (some .int) RX10 1 := ⟨tb_1148, tb_44, tb_1149, tb_67, ⟨by decide +kernel, by decide +kernel, by decide +kernel⟩⟩
theorem cy_X10_places : CY yX10_places cX10_places 5 (some .int) RX10 2 := ⟨tb_1093, tb_31, tb_1094, tb_67, ⟨by decide +kernel, by decide +kernel, by decide +kernel⟩⟩
theorem cy_X10_leaves : CY yX10_leaves cX10_leaves 2 none RX10 1 := ⟨tb_1144, tb_43, tb_1145, tb_67, ⟨by decide +kernel, by decide +kernel, by decide +kernel⟩⟩
theorem cy_X10_connects : CY yX10_connects cX10_connects 2 none RX10 0 := ⟨tb_1152, tb_45, tb_1153, tb_67, ⟨by decide +kernel, by decide +kernel, by decide +kernel⟩⟩
theorem cy_X10_call : CY yX10_call cX10_call 7 (some .int) RX10 2 := ⟨tb_1085, tb_1086, tb_1087, tb_67, ⟨by decide +kernel, by decide +kernel, by decide +kernel⟩⟩
theorem cy_X10_isCall : CY yX10_isCall cX10_isCall 2 (some .boolean) RX10 1 := ⟨tb_1160, tb_46, tb_1161, tb_67, ⟨by decide +kernel, by decide +kernel, by decide +kernel⟩⟩
theorem cy_X10_end : CY yX10_end cX10_end 8 (some .int) RX10 1 := ⟨tb_1155, tb_1156, tb_1157, tb_67, ⟨by decide +kernel, by decide +kernel, by decide +kernel⟩⟩
theorem cy_X10_pass : CY yX10_pass cX10_pass 2 (some .int) RX10 1 := ⟨tb_1167, tb_1168, tb_1169, tb_67, ⟨by decide +kernel, by decide +kernel, by decide +kernel⟩⟩
theorem cy_X10_time : CY yX10_time cX10_time 1 (some .int) RX10 0 := ⟨tb_1172, tb_1173, tb_1174, tb_67, ⟨by decide +kernel, by decide +kernel, by decide +kernel⟩⟩
theorem cy_X10_band : CY yX10_band cX10_band 1 (some .int) RX10 0 := ⟨tb_1176, tb_1177, tb_1178, tb_67, ⟨by decide +kernel, by decide +kernel, by decide +kernel⟩⟩
theorem cy_X10_route : CY yX10_route cX10_route 3 (some .int) RX10 2 := ⟨tb_1180, tb_1181, tb_1182, tb_67, ⟨by decide +kernel, by decide +kernel, by decide +kernel⟩⟩
theorem cy_X10_choice : CY yX10_choice cX10_choice 5 (some .int) RX10 3 := ⟨tb_1184, tb_1185, tb_1186, tb_67, ⟨by decide +kernel, by decide +kernel, by decide +kernel⟩⟩
theorem cy_X10_calls : CY yX10_calls cX10_calls 1 (some .int) RX10 0 := ⟨tb_1188, tb_1189, tb_1190, tb_67, ⟨by decide +kernel, by decide +kernel, by decide +kernel⟩⟩
theorem cy_X10_way : CY yX10_way cX10_way 4 (some .int) RX10 2 := ⟨tb_1192, tb_1193, tb_1194, tb_67, ⟨by decide +kernel, by decide +kernel, by decide +kernel⟩⟩
theorem cy_X10_called : CY yX10_called cX10_called 2 (some .int) RX10 1 := ⟨tb_1196, tb_1197, tb_1198, tb_67, ⟨by decide +kernel, by decide +kernel, by decide +kernel⟩⟩
theorem cy_X10_owes : CY yX10_owes cX10_owes 3 (some .int) RX10 2 := ⟨tb_1200, tb_1201, tb_1202, tb_67, ⟨by decide +kernel, by decide +kernel, by decide +kernel⟩⟩
theorem cy_X10_attempts : CY yX10_attempts cX10_attempts 1 (some .int) RX10 0 := ⟨tb_1204, tb_1205, tb_1206, tb_67, ⟨by decide +kernel, by decide +kernel, by decide +kernel⟩⟩
theorem cy_X10_attempt : CY yX10_attempt cX10_attempt 3 (some .int) RX10 2 := ⟨tb_1208, tb_1209, tb_1210, tb_67, ⟨by decide +kernel, by decide +kernel, by decide +kernel⟩⟩
theorem cy_X10_costsTo : CY yX10_costsTo cX10_costsTo 5 (some .int) RX10 2 := ⟨tb_1217, tb_48, tb_1218, tb_67, ⟨by decide +kernel, by decide +kernel, by decide +kernel⟩⟩
theorem cy_X10_cheapest : CY yX10_cheapest cX10_cheapest 9 (some .int) RX10 2 := ⟨tb_1212, tb_1213, tb_1214, tb_67, ⟨by decide +kernel, by decide +kernel, by decide +kernel⟩⟩
theorem cy_X10_type : CY yX10_type cX10_type 2 (some .int) RX10 1 := ⟨tb_1220, tb_1221, tb_1222, tb_67, ⟨by decide +kernel, by decide +kernel, by decide +kernel⟩⟩
theorem cy_X10_clear : CY yX10_clear cX10_clear 2 (some .int) RX10 0 := ⟨tb_1224, tb_1225, tb_1226, tb_67, ⟨by decide +kernel, by decide +kernel, by decide +kernel⟩⟩
theorem cy_X10_sign : CY yX10_sign cX10_sign 1 (some .int) RX10 0 := ⟨tb_1241, tb_51, tb_1242, tb_67, ⟨by decide +kernel, by decide +kernel, by decide +kernel⟩⟩
theorem cy_X10_takes : CY yX10_takes cX10_takes 3 (some .boolean) RX10 1 := ⟨tb_1249, tb_53, tb_1250, tb_67, ⟨by decide +kernel, by decide +kernel, by decide +kernel⟩⟩
theorem cy_X10_reads : CY yX10_reads cX10_reads 7 (some .boolean) RX10 4 := ⟨tb_1245, tb_52, tb_1246, tb_67, ⟨by decide +kernel, by decide +kernel, by decide +kernel⟩⟩
theorem cy_X10_readsCommand : CY yX10_readsCommand cX10_readsCommand 3 (some .boolean) RX10 0 := ⟨tb_1237, tb_50, tb_1238, tb_67, ⟨by decide +kernel, by decide +kernel, by decide +kernel⟩⟩
theorem cy_X10_readsText : CY yX10_readsText cX10_readsText 2 (some .boolean) RX10 0 := ⟨tb_1233, tb_49, tb_1234, tb_67, ⟨by decide +kernel, by decide +kernel, by decide +kernel⟩⟩
theorem cy_X10_num : CY yX10_num cX10_num 3 (some .int) RX10 2 := ⟨tb_1257, tb_55, tb_1258, tb_67, ⟨by decide +kernel, by decide +kernel, by decide +kernel⟩⟩
theorem cy_X10_does : CY yX10_does cX10_does 6 (some .boolean) RX10 1 := ⟨tb_1253, tb_54, tb_1254, tb_67, ⟨by decide +kernel, by decide +kernel, by decide +kernel⟩⟩
theorem cy_X10_run : CY yX10_run cX10_run 2 (some .int) RX10 0 := ⟨tb_1228, tb_1229, tb_1230, tb_67, ⟨by decide +kernel, by decide +kernel, by decide +kernel⟩⟩
theorem cy_X10_undo : CY yX10_undo cX10_undo 2 (some .int) RX10 0 := ⟨tb_1260, tb_1261, tb_1262, tb_67, ⟨by decide +kernel, by decide +kernel, by decide +kernel⟩⟩
theorem cy_X10_fingerprint : CY yX10_fingerprint cX10_fingerprint 5 (some .long) RX10 0 := ⟨tb_1264, tb_1265, tb_1266, tb_67, ⟨by decide +kernel, by decide +kernel, by decide +kernel⟩⟩
theorem cy_J6_bitCount_0f7a4 : CS yJ6_bitCount_0f7a4 cJ6_bitCount_0f7a4 1 (some .int) 1 := ⟨tb_514, tb_515, tb_70, ⟨by decide +kernel, by decide +kernel, by decide +kernel⟩⟩
theorem cy_J9_floorMod_7cf53 : CS yJ9_floorMod_7cf53 cJ9_floorMod_7cf53 3 (some .int) 2 := ⟨tb_334, tb_335, tb_68, ⟨by decide +kernel, by decide +kernel, by decide +kernel⟩⟩
theorem cy_J9_max_7cf53 : CS yJ9_max_7cf53 cJ9_max_7cf53 2 (some .int) 2 := ⟨tb_645, tb_646, tb_68, ⟨by decide +kernel, by decide +kernel, by decide +kernel⟩⟩
theorem cy_J9_min_7cf53 : CS yJ9_min_7cf53 cJ9_min_7cf53 2 (some .int) 2 := ⟨tb_793, tb_794, tb_68, ⟨by decide +kernel, by decide +kernel, by decide +kernel⟩⟩
