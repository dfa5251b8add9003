/-! the instructions are the bytes' (written by wip/whole/gen06.py) -/
theorem mm_cd {α : Type} {P : α → Prop} {c : Bool} {a b : α} (ha : P a) (hb : P b) : P (bif c then a else b) := by cases c <;> assumption
def mm_len (i : Instr) (n : Nat) : Bool := match i with
  | .bipush _ | .iload _ | .lload _ | .aload _ | .istore _ | .lstore _ | .astore _ => Nat.beq n 2
  | .sipush _ | .ldc_w _ | .ldc2_w _ | .iinc _ _ | .goto _ | .ifCond _ _ | .if_icmp _ _ | .getfield _ | .putfield _ | .getstatic _ | .invokevirtual _ | .invokestatic _ => Nat.beq n 3
  | .tableswitch _ _ _ _ | .lookupswitch _ _ | .new _ | .invokespecial _ => true
  | _ => Nat.beq n 1
def mm_okl (b : ByteArray) (t : List (Nat × Instr × Nat)) : Bool := t.all fun e => decide (decode b e.1 = .ok e.2) && mm_len e.2.1 e.2.2
def mm_ok1 (M : mm_Mt) : Bool := mm_okl M.2.2.1 M.1
theorem mm_okl_app {b : ByteArray} {s t : List (Nat × Instr × Nat)} (h : mm_okl b s = true) (k : mm_okl b t = true) : mm_okl b (s ++ t) = true := by
  unfold mm_okl at *
  rw [List.all_append, h, k]
  rfl
set_option maxRecDepth 100000 in
theorem mo_X0_has : mm_ok1 mM_X0_has = true := by decide +kernel
set_option maxRecDepth 100000 in
theorem mo_X0_reach : mm_ok1 mM_X0_reach = true := by decide +kernel
set_option maxRecDepth 100000 in
theorem mo_X0_add : mm_ok1 mM_X0_add = true := by decide +kernel
set_option maxRecDepth 100000 in
theorem mo_X0_takeBack : mm_ok1 mM_X0_takeBack = true := by decide +kernel
set_option maxRecDepth 100000 in
theorem mo_X1_ofStones : mm_ok1 mM_X1_ofStones = true := by decide +kernel
set_option maxRecDepth 100000 in
theorem mo_X1_ofTwo : mm_ok1 mM_X1_ofTwo = true := by decide +kernel
set_option maxRecDepth 100000 in
theorem mo_X2_begin : mm_ok1 mM_X2_begin = true := by decide +kernel
set_option maxRecDepth 100000 in
theorem mo_X2_turnTo : mm_ok1 mM_X2_turnTo = true := by decide +kernel
set_option maxRecDepth 100000 in
theorem mo_X2_has : mm_ok1 mM_X2_has = true := by decide +kernel
set_option maxRecDepth 100000 in
theorem mo_X2_isWater : mm_ok1 mM_X2_isWater = true := by decide +kernel
set_option maxRecDepth 100000 in
theorem mo_X2_steps : mm_ok1 mM_X2_steps = true := by decide +kernel
set_option maxRecDepth 100000 in
theorem mo_X2_lasts : mm_ok1 mM_X2_lasts = true := by decide +kernel
set_option maxRecDepth 100000 in
theorem mo_X2_ringAt : mm_ok1 mM_X2_ringAt = true := by decide +kernel
set_option maxRecDepth 100000 in
theorem mo_X2_spread : mm_ok1 mM_X2_spread = true := by decide +kernel
set_option maxRecDepth 100000 in
theorem mo_X2_lesserBeside : mm_ok1 mM_X2_lesserBeside = true := by decide +kernel
set_option maxRecDepth 100000 in
theorem mo_X3_read : mm_ok1 mM_X3_read = true := by decide +kernel
set_option maxRecDepth 100000 in
theorem mo_X3_end : mm_ok1 mM_X3_end = true := by decide +kernel
set_option maxRecDepth 100000 in
theorem mo_X3_goesOn : mm_ok1 mM_X3_goesOn = true := by decide +kernel
set_option maxRecDepth 100000 in
theorem mo_X3_goesOnInRows : mm_ok1 mM_X3_goesOnInRows = true := by decide +kernel
set_option maxRecDepth 100000 in
theorem mo_X4_renew : mm_ok1 mM_X4_renew = true := by decide +kernel
set_option maxRecDepth 100000 in
theorem mo_X4_isOfAnother : mm_ok1 mM_X4_isOfAnother = true := by decide +kernel
set_option maxRecDepth 100000 in
theorem mo_X4_hasCells : mm_ok1 mM_X4_hasCells = true := by decide +kernel
set_option maxRecDepth 100000 in
theorem mo_X4_take : mm_ok1 mM_X4_take = true := by decide +kernel
set_option maxRecDepth 100000 in
theorem mo_X5_forgetPlan : mm_ok1 mM_X5_forgetPlan = true := by decide +kernel
set_option maxRecDepth 100000 in
theorem mo_X5_learn : mm_ok1 mM_X5_learn = true := by decide +kernel
set_option maxRecDepth 100000 in
theorem mo_X5_learnPair : mm_ok1 mM_X5_learnPair = true := by decide +kernel
set_option maxRecDepth 100000 in
theorem mo_X5_leastGap : mm_ok1 mM_X5_leastGap = true := by decide +kernel
set_option maxRecDepth 100000 in
theorem mo_X5_throwInTurn : mm_ok1 mM_X5_throwInTurn = true := by decide +kernel
set_option maxRecDepth 100000 in
theorem mo_X5_meetsOneAhead : mm_ok1 mM_X5_meetsOneAhead = true := by decide +kernel
set_option maxRecDepth 100000 in
theorem mo_X5_makePlan : mm_ok1 mM_X5_makePlan = true := by decide +kernel
set_option maxRecDepth 100000 in
theorem mo_X5_firstThatWillDo : mm_ok1 mM_X5_firstThatWillDo = true := by decide +kernel
set_option maxRecDepth 100000 in
theorem mo_X5_widestPair : mm_ok1 mM_X5_widestPair = true := by decide +kernel
set_option maxRecDepth 100000 in
theorem mo_X5_mostBy : mm_ok1 mM_X5_mostBy = true := by decide +kernel
set_option maxRecDepth 100000 in
theorem mo_X5_canThrow : mm_ok1 mM_X5_canThrow = true := by decide +kernel
set_option maxRecDepth 100000 in
theorem mo_X5_weightIn : mm_ok1 mM_X5_weightIn = true := by decide +kernel
set_option maxRecDepth 100000 in
theorem mo_X5_canPlace : mm_ok1 mM_X5_canPlace = true := by decide +kernel
set_option maxRecDepth 100000 in
theorem mo_X5_tightest : mm_ok1 mM_X5_tightest = true := by decide +kernel
set_option maxRecDepth 100000 in
theorem mo_X5_leavesRoom : mm_ok1 mM_X5_leavesRoom = true := by decide +kernel
set_option maxRecDepth 100000 in
theorem mo_X6_pond : mm_ok1 mM_X6_pond = true := by decide +kernel
set_option maxRecDepth 100000 in
theorem mo_X6_water : mm_ok1 mM_X6_water = true := by decide +kernel
set_option maxRecDepth 100000 in
theorem mo_X6_far : mm_ok1 mM_X6_far = true := by decide +kernel
set_option maxRecDepth 100000 in
theorem mo_X6_stone : mm_ok1 mM_X6_stone = true := by decide +kernel
set_option maxRecDepth 100000 in
theorem mo_X6_ofStone : mm_ok1 mM_X6_ofStone = true := by decide +kernel
set_option maxRecDepth 100000 in
theorem mo_X6_back : mm_ok1 mM_X6_back = true := by decide +kernel
set_option maxRecDepth 100000 in
theorem mo_X6_ring : mm_ok1 mM_X6_ring = true := by decide +kernel
set_option maxRecDepth 100000 in
theorem mo_X6_meet : mm_ok1 mM_X6_meet = true := by decide +kernel
set_option maxRecDepth 100000 in
theorem mo_X6_first : mm_ok1 mM_X6_first = true := by decide +kernel
set_option maxRecDepth 100000 in
theorem mo_X6_wish : mm_ok1 mM_X6_wish = true := by decide +kernel
set_option maxRecDepth 100000 in
theorem mo_X6_ofWish : mm_ok1 mM_X6_ofWish = true := by decide +kernel
set_option maxRecDepth 100000 in
theorem mo_X6_drop : mm_ok1 mM_X6_drop = true := by decide +kernel
set_option maxRecDepth 100000 in
theorem mo_X6_apart : mm_ok1 mM_X6_apart = true := by decide +kernel
set_option maxRecDepth 100000 in
theorem mo_X6_atOnce : mm_ok1 mM_X6_atOnce = true := by decide +kernel
set_option maxRecDepth 100000 in
theorem mo_X6_soonest : mm_ok1 mM_X6_soonest = true := by decide +kernel
set_option maxRecDepth 100000 in
theorem mo_X6_alone : mm_ok1 mM_X6_alone = true := by decide +kernel
set_option maxRecDepth 100000 in
theorem mo_X6_sunset : mm_ok1 mM_X6_sunset = true := by decide +kernel
set_option maxRecDepth 100000 in
theorem mo_X6_reed : mm_ok1 mM_X6_reed = true := by decide +kernel
set_option maxRecDepth 100000 in
theorem mo_X6_pull : mm_ok1 mM_X6_pull = true := by decide +kernel
set_option maxRecDepth 100000 in
theorem mo_X6_fits : mm_ok1 mM_X6_fits = true := by decide +kernel
set_option maxRecDepth 100000 in
theorem mo_X6_dig : mm_ok1 mM_X6_dig = true := by decide +kernel
set_option maxRecDepth 100000 in
theorem mo_X6_sheet : mm_ok1 mM_X6_sheet = true := by decide +kernel
set_option maxRecDepth 100000 in
theorem mo_X6_lose : mm_ok1 mM_X6_lose = true := by decide +kernel
set_option maxRecDepth 100000 in
theorem mo_X6_put : mm_ok1 mM_X6_put = true := by decide +kernel
set_option maxRecDepth 100000 in
theorem mo_X6_cell : mm_ok1 mM_X6_cell = true := by decide +kernel
set_option maxRecDepth 100000 in
theorem mo_X6_copy : mm_ok1 mM_X6_copy = true := by decide +kernel
set_option maxRecDepth 100000 in
theorem mo_X6_tell : mm_ok1 mM_X6_tell = true := by decide +kernel
set_option maxRecDepth 100000 in
theorem mo_X6_make : mm_ok1 mM_X6_make = true := by decide +kernel
set_option maxRecDepth 100000 in
theorem mo_X6_as : mm_ok1 mM_X6_as = true := by decide +kernel
set_option maxRecDepth 100000 in
theorem mo_X6_trace : mm_ok1 mM_X6_trace = true := by decide +kernel
set_option maxRecDepth 100000 in
theorem mo_X6_fault : mm_ok1 mM_X6_fault = true := by decide +kernel
set_option maxRecDepth 100000 in
theorem mo_X6_many : mm_ok1 mM_X6_many = true := by decide +kernel
set_option maxRecDepth 100000 in
theorem mo_X6_faulty : mm_ok1 mM_X6_faulty = true := by decide +kernel
set_option maxRecDepth 100000 in
theorem mo_X6_isSheet : mm_ok1 mM_X6_isSheet = true := by decide +kernel
set_option maxRecDepth 100000 in
theorem mo_X6_isSort : mm_ok1 mM_X6_isSort = true := by decide +kernel
set_option maxRecDepth 100000 in
theorem mo_X6_isKind : mm_ok1 mM_X6_isKind = true := by decide +kernel
set_option maxRecDepth 100000 in
theorem mo_X6_isMinute : mm_ok1 mM_X6_isMinute = true := by decide +kernel
set_option maxRecDepth 100000 in
theorem mo_X6_lowestBit : mm_ok1 mM_X6_lowestBit = true := by decide +kernel
set_option maxRecDepth 100000 in
theorem mo_X6_fitsInCell : mm_ok1 mM_X6_fitsInCell = true := by decide +kernel
set_option maxRecDepth 100000 in
theorem mo_X6_firstFit : mm_ok1 mM_X6_firstFit = true := by decide +kernel
set_option maxRecDepth 100000 in
theorem mo_X6_mostTogetherIfDug : mm_ok1 mM_X6_mostTogetherIfDug = true := by decide +kernel
set_option maxRecDepth 100000 in
theorem mo_X6_mostTogether : mm_ok1 mM_X6_mostTogether = true := by decide +kernel
set_option maxRecDepth 100000 in
theorem mo_X6_findClashes : mm_ok1 mM_X6_findClashes = true := by decide +kernel
set_option maxRecDepth 100000 in
theorem mo_X6_isPeaceful : mm_ok1 mM_X6_isPeaceful = true := by decide +kernel
set_option maxRecDepth 100000 in
theorem mo_X6_leave : mm_ok1 mM_X6_leave = true := by decide +kernel
set_option maxRecDepth 100000 in
theorem mo_X6_stoneTells : mm_ok1 mM_X6_stoneTells = true := by decide +kernel
set_option maxRecDepth 100000 in
theorem mo_X6_pebbleTells : mm_ok1 mM_X6_pebbleTells = true := by decide +kernel
set_option maxRecDepth 100000 in
theorem mo_X6_grainTells : mm_ok1 mM_X6_grainTells = true := by decide +kernel
set_option maxRecDepth 100000 in
theorem mo_X6_lentMakes : mm_ok1 mM_X6_lentMakes = true := by decide +kernel
set_option maxRecDepth 100000 in
theorem mo_X6_grainMakes : mm_ok1 mM_X6_grainMakes = true := by decide +kernel
set_option maxRecDepth 100000 in
theorem mo_X7_fails : mm_ok1 mM_X7_fails = true := by decide +kernel
set_option maxRecDepth 100000 in
theorem mo_X7_lost : mm_ok1 mM_X7_lost = true := by decide +kernel
set_option maxRecDepth 100000 in
theorem mo_X7_within : mm_ok1 mM_X7_within = true := by decide +kernel
set_option maxRecDepth 100000 in
theorem mo_X7_isSheet : mm_ok1 mM_X7_isSheet = true := by decide +kernel
set_option maxRecDepth 100000 in
theorem mo_X7_isSort : mm_ok1 mM_X7_isSort = true := by decide +kernel
set_option maxRecDepth 100000 in
theorem mo_X7_against : mm_ok1 mM_X7_against = true := by decide +kernel
set_option maxRecDepth 100000 in
theorem mo_X7_all : mm_ok1 mM_X7_all = true := by decide +kernel
set_option maxRecDepth 100000 in
theorem mo_X7_isCell : mm_ok1 mM_X7_isCell = true := by decide +kernel
set_option maxRecDepth 100000 in
theorem mo_X7_digit : mm_ok1 mM_X7_digit = true := by decide +kernel
set_option maxRecDepth 100000 in
theorem mo_X7_pond : mm_ok1 mM_X7_pond = true := by decide +kernel
set_option maxRecDepth 100000 in
theorem mo_X7_readPond : mm_ok1 mM_X7_readPond = true := by decide +kernel
set_option maxRecDepth 100000 in
theorem mo_X7_beside : mm_ok1 mM_X7_beside = true := by decide +kernel
set_option maxRecDepth 100000 in
theorem mo_X7_way : mm_ok1 mM_X7_way = true := by decide +kernel
set_option maxRecDepth 100000 in
theorem mo_X7_layWays : mm_ok1 mM_X7_layWays = true := by decide +kernel
set_option maxRecDepth 100000 in
theorem mo_X7_goOn : mm_ok1 mM_X7_goOn = true := by decide +kernel
set_option maxRecDepth 100000 in
theorem mo_X7_water : mm_ok1 mM_X7_water = true := by decide +kernel
set_option maxRecDepth 100000 in
theorem mo_X7_far : mm_ok1 mM_X7_far = true := by decide +kernel
set_option maxRecDepth 100000 in
theorem mo_X7_reach : mm_ok1 mM_X7_reach = true := by decide +kernel
set_option maxRecDepth 100000 in
theorem mo_X7_comes : mm_ok1 mM_X7_comes = true := by decide +kernel
set_option maxRecDepth 100000 in
theorem mo_X7_isStone : mm_ok1 mM_X7_isStone = true := by decide +kernel
set_option maxRecDepth 100000 in
theorem mo_X7_stone : mm_ok1 mM_X7_stone = true := by decide +kernel
set_option maxRecDepth 100000 in
theorem mo_X7_overAt : mm_ok1 mM_X7_overAt = true := by decide +kernel
set_option maxRecDepth 100000 in
theorem mo_X7_ofStone : mm_ok1 mM_X7_ofStone = true := by decide +kernel
set_option maxRecDepth 100000 in
theorem mo_X7_back : mm_ok1 mM_X7_back = true := by decide +kernel
set_option maxRecDepth 100000 in
theorem mo_X7_ring : mm_ok1 mM_X7_ring = true := by decide +kernel
set_option maxRecDepth 100000 in
theorem mo_X7_offer : mm_ok1 mM_X7_offer = true := by decide +kernel
set_option maxRecDepth 100000 in
theorem mo_X7_findMeet : mm_ok1 mM_X7_findMeet = true := by decide +kernel
set_option maxRecDepth 100000 in
theorem mo_X7_isThere : mm_ok1 mM_X7_isThere = true := by decide +kernel
set_option maxRecDepth 100000 in
theorem mo_X7_meet : mm_ok1 mM_X7_meet = true := by decide +kernel
set_option maxRecDepth 100000 in
theorem mo_X7_first : mm_ok1 mM_X7_first = true := by decide +kernel
set_option maxRecDepth 100000 in
theorem mo_X7_isWish : mm_ok1 mM_X7_isWish = true := by decide +kernel
set_option maxRecDepth 100000 in
theorem mo_X7_wish : mm_ok1 mM_X7_wish = true := by decide +kernel
set_option maxRecDepth 100000 in
theorem mo_X7_ofWish : mm_ok1 mM_X7_ofWish = true := by decide +kernel
set_option maxRecDepth 100000 in
theorem mo_X7_drop : mm_ok1 mM_X7_drop = true := by decide +kernel
set_option maxRecDepth 100000 in
theorem mo_X7_isWithin : mm_ok1 mM_X7_isWithin = true := by decide +kernel
set_option maxRecDepth 100000 in
theorem mo_X7_meetBy : mm_ok1 mM_X7_meetBy = true := by decide +kernel
set_option maxRecDepth 100000 in
theorem mo_X7_layMeets : mm_ok1 mM_X7_layMeets = true := by decide +kernel
set_option maxRecDepth 100000 in
theorem mo_X7_layMeetsAt : mm_ok1 mM_X7_layMeetsAt = true := by decide +kernel
set_option maxRecDepth 100000 in
theorem mo_X7_apart : mm_ok1 mM_X7_apart = true := by decide +kernel
set_option maxRecDepth 100000 in
theorem mo_X7_size : mm_ok1 mM_X7_size = true := by decide +kernel
set_option maxRecDepth 100000 in
theorem mo_X7_mayAtOnce : mm_ok1 mM_X7_mayAtOnce = true := by decide +kernel
set_option maxRecDepth 100000 in
theorem mo_X7_mostAtOnce : mm_ok1 mM_X7_mostAtOnce = true := by decide +kernel
set_option maxRecDepth 100000 in
theorem mo_X7_atOnce : mm_ok1 mM_X7_atOnce = true := by decide +kernel
set_option maxRecDepth 100000 in
theorem mo_X7_mayBe : mm_ok1 mM_X7_mayBe = true := by decide +kernel
set_option maxRecDepth 100000 in
theorem mo_X7_mayGoOn : mm_ok1 mM_X7_mayGoOn = true := by decide +kernel
set_option maxRecDepth 100000 in
theorem mo_X7_find : mm_ok1 mM_X7_find = true := by decide +kernel
set_option maxRecDepth 100000 in
theorem mo_X7_soonest : mm_ok1 mM_X7_soonest = true := by decide +kernel
set_option maxRecDepth 100000 in
theorem mo_X7_alone : mm_ok1 mM_X7_alone = true := by decide +kernel
set_option maxRecDepth 100000 in
theorem mo_X7_sunset : mm_ok1 mM_X7_sunset = true := by decide +kernel
set_option maxRecDepth 100000 in
theorem mo_X7_reed : mm_ok1 mM_X7_reed = true := by decide +kernel
set_option maxRecDepth 100000 in
theorem mo_X7_pull : mm_ok1 mM_X7_pull = true := by decide +kernel
set_option maxRecDepth 100000 in
theorem mo_X7_doesFit : mm_ok1 mM_X7_doesFit = true := by decide +kernel
set_option maxRecDepth 100000 in
theorem mo_X7_fits : mm_ok1 mM_X7_fits = true := by decide +kernel
set_option maxRecDepth 100000 in
theorem mo_X7_dig : mm_ok1 mM_X7_dig = true := by decide +kernel
set_option maxRecDepth 100000 in
theorem mo_X7_sheet : mm_ok1 mM_X7_sheet = true := by decide +kernel
set_option maxRecDepth 100000 in
theorem mo_X7_lose : mm_ok1 mM_X7_lose = true := by decide +kernel
set_option maxRecDepth 100000 in
theorem mo_X7_put : mm_ok1 mM_X7_put = true := by decide +kernel
set_option maxRecDepth 100000 in
theorem mo_X7_cell : mm_ok1 mM_X7_cell = true := by decide +kernel
set_option maxRecDepth 100000 in
theorem mo_X7_copy : mm_ok1 mM_X7_copy = true := by decide +kernel
set_option maxRecDepth 100000 in
theorem mo_X7_begins : mm_ok1 mM_X7_begins = true := by decide +kernel
set_option maxRecDepth 100000 in
theorem mo_X7_tell : mm_ok1 mM_X7_tell = true := by decide +kernel
set_option maxRecDepth 100000 in
theorem mo_X7_make : mm_ok1 mM_X7_make = true := by decide +kernel
set_option maxRecDepth 100000 in
theorem mo_X7_as : mm_ok1 mM_X7_as = true := by decide +kernel
set_option maxRecDepth 100000 in
theorem mo_X7_trace : mm_ok1 mM_X7_trace = true := by decide +kernel
set_option maxRecDepth 100000 in
theorem mo_X7_fault : mm_ok1 mM_X7_fault = true := by decide +kernel
set_option maxRecDepth 100000 in
theorem mo_X7_many : mm_ok1 mM_X7_many = true := by decide +kernel
set_option maxRecDepth 100000 in
theorem mo_J6_bitCount_0f7a4 : mm_ok1 mM_J6_bitCount_0f7a4 = true := by decide +kernel
set_option maxRecDepth 100000 in
theorem mo_J13_bitCount_95d88 : mm_ok1 mM_J13_bitCount_95d88 = true := by decide +kernel
set_option maxRecDepth 100000 in
theorem mo_J7_fill_d0a16 : mm_ok1 mM_J7_fill_d0a16 = true := by decide +kernel
set_option maxRecDepth 100000 in
theorem mo_J7_fill_53178 : mm_ok1 mM_J7_fill_53178 = true := by decide +kernel
set_option maxRecDepth 100000 in

theorem mo_L_law_0 : mm_okl code mt_L_law_0 = true := by decide +kernel
set_option maxRecDepth 100000 in
theorem mo_L_law_1 : mm_okl code mt_L_law_1 = true := by decide +kernel
set_option maxRecDepth 100000 in
theorem mo_L_law_2 : mm_okl code mt_L_law_2 = true := by decide +kernel
set_option maxRecDepth 100000 in
theorem mo_L_law_3 : mm_okl code mt_L_law_3 = true := by decide +kernel
set_option maxRecDepth 100000 in
theorem mo_L_law_4 : mm_okl code mt_L_law_4 = true := by decide +kernel
set_option maxRecDepth 100000 in
theorem mo_L_law_5 : mm_okl code mt_L_law_5 = true := by decide +kernel
set_option maxRecDepth 100000 in
theorem mo_L_law_6 : mm_okl code mt_L_law_6 = true := by decide +kernel
set_option maxRecDepth 100000 in
theorem mo_L_law_7 : mm_okl code mt_L_law_7 = true := by decide +kernel
set_option maxRecDepth 100000 in
theorem mo_L_law_8 : mm_okl code mt_L_law_8 = true := by decide +kernel
set_option maxRecDepth 100000 in
theorem mo_L_law_9 : mm_okl code mt_L_law_9 = true := by decide +kernel
set_option maxRecDepth 100000 in
theorem mo_L_law_10 : mm_okl code mt_L_law_10 = true := by decide +kernel
set_option maxRecDepth 100000 in
theorem mo_L_law_11 : mm_okl code mt_L_law_11 = true := by decide +kernel
set_option maxRecDepth 100000 in
theorem mo_L_law_12 : mm_okl code mt_L_law_12 = true := by decide +kernel
set_option maxRecDepth 100000 in
theorem mo_L_law_13 : mm_okl code mt_L_law_13 = true := by decide +kernel
set_option maxRecDepth 100000 in
theorem mo_L_law_14 : mm_okl code mt_L_law_14 = true := by decide +kernel
set_option maxRecDepth 100000 in
theorem mo_L_law_15 : mm_okl code mt_L_law_15 = true := by decide +kernel
set_option maxRecDepth 100000 in
theorem mo_L_law_16 : mm_okl code mt_L_law_16 = true := by decide +kernel
theorem mo_L_law : mm_ok1 mM_L_law = true := (mm_okl_app mo_L_law_0 (mm_okl_app mo_L_law_1 (mm_okl_app mo_L_law_2 (mm_okl_app mo_L_law_3 (mm_okl_app mo_L_law_4 (mm_okl_app mo_L_law_5 (mm_okl_app mo_L_law_6 (mm_okl_app mo_L_law_7 (mm_okl_app mo_L_law_8 (mm_okl_app mo_L_law_9 (mm_okl_app mo_L_law_10 (mm_okl_app mo_L_law_11 (mm_okl_app mo_L_law_12 (mm_okl_app mo_L_law_13 (mm_okl_app mo_L_law_14 (mm_okl_app mo_L_law_15 mo_L_law_16))))))))))))))))
theorem mm_ok1_all (y : Nat) : mm_ok1 (mm_M y) = true := by
  unfold mm_M
  exact (mm_cd (P := fun M => mm_ok1 M = true) (mm_cd (P := fun M => mm_ok1 M = true) (mm_cd (P := fun M => mm_ok1 M = true) (mm_cd (P := fun M => mm_ok1 M = true) (mm_cd (P := fun M => mm_ok1 M = true) (mm_cd (P := fun M => mm_ok1 M = true) (mm_cd (P := fun M => mm_ok1 M = true) mo_X0_has mo_X0_reach) (mm_cd (P := fun M => mm_ok1 M = true) mo_X0_add mo_X0_takeBack)) (mm_cd (P := fun M => mm_ok1 M = true) (mm_cd (P := fun M => mm_ok1 M = true) mo_X1_ofStones mo_X1_ofTwo) (mm_cd (P := fun M => mm_ok1 M = true) mo_X2_begin (mm_cd (P := fun M => mm_ok1 M = true) mo_X2_turnTo mo_X2_has)))) (mm_cd (P := fun M => mm_ok1 M = true) (mm_cd (P := fun M => mm_ok1 M = true) (mm_cd (P := fun M => mm_ok1 M = true) mo_X2_isWater mo_X2_steps) (mm_cd (P := fun M => mm_ok1 M = true) mo_X2_lasts (mm_cd (P := fun M => mm_ok1 M = true) mo_X2_ringAt mo_X2_spread))) (mm_cd (P := fun M => mm_ok1 M = true) (mm_cd (P := fun M => mm_ok1 M = true) mo_X2_lesserBeside mo_X3_read) (mm_cd (P := fun M => mm_ok1 M = true) mo_X3_end (mm_cd (P := fun M => mm_ok1 M = true) mo_X3_goesOn mo_X3_goesOnInRows))))) (mm_cd (P := fun M => mm_ok1 M = true) (mm_cd (P := fun M => mm_ok1 M = true) (mm_cd (P := fun M => mm_ok1 M = true) (mm_cd (P := fun M => mm_ok1 M = true) mo_X4_renew mo_X4_isOfAnother) (mm_cd (P := fun M => mm_ok1 M = true) mo_X4_hasCells (mm_cd (P := fun M => mm_ok1 M = true) mo_X4_take mo_X5_forgetPlan))) (mm_cd (P := fun M => mm_ok1 M = true) (mm_cd (P := fun M => mm_ok1 M = true) mo_X5_learn mo_X5_learnPair) (mm_cd (P := fun M => mm_ok1 M = true) mo_X5_leastGap (mm_cd (P := fun M => mm_ok1 M = true) mo_X5_throwInTurn mo_X5_meetsOneAhead)))) (mm_cd (P := fun M => mm_ok1 M = true) (mm_cd (P := fun M => mm_ok1 M = true) (mm_cd (P := fun M => mm_ok1 M = true) mo_X5_makePlan mo_X5_firstThatWillDo) (mm_cd (P := fun M => mm_ok1 M = true) mo_X5_widestPair (mm_cd (P := fun M => mm_ok1 M = true) mo_X5_mostBy mo_X5_canThrow))) (mm_cd (P := fun M => mm_ok1 M = true) (mm_cd (P := fun M => mm_ok1 M = true) mo_X5_weightIn mo_X5_canPlace) (mm_cd (P := fun M => mm_ok1 M = true) mo_X5_tightest (mm_cd (P := fun M => mm_ok1 M = true) mo_X5_leavesRoom mo_X6_pond)))))) (mm_cd (P := fun M => mm_ok1 M = true) (mm_cd (P := fun M => mm_ok1 M = true) (mm_cd (P := fun M => mm_ok1 M = true) (mm_cd (P := fun M => mm_ok1 M = true) (mm_cd (P := fun M => mm_ok1 M = true) mo_X6_water mo_X6_far) (mm_cd (P := fun M => mm_ok1 M = true) mo_X6_stone (mm_cd (P := fun M => mm_ok1 M = true) mo_X6_ofStone mo_X6_back))) (mm_cd (P := fun M => mm_ok1 M = true) (mm_cd (P := fun M => mm_ok1 M = true) mo_X6_ring mo_X6_meet) (mm_cd (P := fun M => mm_ok1 M = true) mo_X6_first (mm_cd (P := fun M => mm_ok1 M = true) mo_X6_wish mo_X6_ofWish)))) (mm_cd (P := fun M => mm_ok1 M = true) (mm_cd (P := fun M => mm_ok1 M = true) (mm_cd (P := fun M => mm_ok1 M = true) mo_X6_drop mo_X6_apart) (mm_cd (P := fun M => mm_ok1 M = true) mo_X6_atOnce (mm_cd (P := fun M => mm_ok1 M = true) mo_X6_soonest mo_X6_alone))) (mm_cd (P := fun M => mm_ok1 M = true) (mm_cd (P := fun M => mm_ok1 M = true) mo_X6_sunset mo_X6_reed) (mm_cd (P := fun M => mm_ok1 M = true) mo_X6_pull (mm_cd (P := fun M => mm_ok1 M = true) mo_X6_fits mo_X6_dig))))) (mm_cd (P := fun M => mm_ok1 M = true) (mm_cd (P := fun M => mm_ok1 M = true) (mm_cd (P := fun M => mm_ok1 M = true) (mm_cd (P := fun M => mm_ok1 M = true) mo_X6_sheet mo_X6_lose) (mm_cd (P := fun M => mm_ok1 M = true) mo_X6_put (mm_cd (P := fun M => mm_ok1 M = true) mo_X6_cell mo_X6_copy))) (mm_cd (P := fun M => mm_ok1 M = true) (mm_cd (P := fun M => mm_ok1 M = true) mo_X6_tell mo_X6_make) (mm_cd (P := fun M => mm_ok1 M = true) mo_X6_as (mm_cd (P := fun M => mm_ok1 M = true) mo_X6_trace mo_X6_fault)))) (mm_cd (P := fun M => mm_ok1 M = true) (mm_cd (P := fun M => mm_ok1 M = true) (mm_cd (P := fun M => mm_ok1 M = true) mo_X6_many mo_X6_faulty) (mm_cd (P := fun M => mm_ok1 M = true) mo_X6_isSheet (mm_cd (P := fun M => mm_ok1 M = true) mo_X6_isSort mo_X6_isKind))) (mm_cd (P := fun M => mm_ok1 M = true) (mm_cd (P := fun M => mm_ok1 M = true) mo_X6_isMinute mo_X6_lowestBit) (mm_cd (P := fun M => mm_ok1 M = true) mo_X6_fitsInCell (mm_cd (P := fun M => mm_ok1 M = true) mo_X6_firstFit mo_X6_mostTogetherIfDug))))))) (mm_cd (P := fun M => mm_ok1 M = true) (mm_cd (P := fun M => mm_ok1 M = true) (mm_cd (P := fun M => mm_ok1 M = true) (mm_cd (P := fun M => mm_ok1 M = true) (mm_cd (P := fun M => mm_ok1 M = true) (mm_cd (P := fun M => mm_ok1 M = true) mo_X6_mostTogether mo_X6_findClashes) (mm_cd (P := fun M => mm_ok1 M = true) mo_X6_isPeaceful (mm_cd (P := fun M => mm_ok1 M = true) mo_X6_leave mo_X6_stoneTells))) (mm_cd (P := fun M => mm_ok1 M = true) (mm_cd (P := fun M => mm_ok1 M = true) mo_X6_pebbleTells mo_X6_grainTells) (mm_cd (P := fun M => mm_ok1 M = true) mo_X6_lentMakes (mm_cd (P := fun M => mm_ok1 M = true) mo_X6_grainMakes mo_X7_fails)))) (mm_cd (P := fun M => mm_ok1 M = true) (mm_cd (P := fun M => mm_ok1 M = true) (mm_cd (P := fun M => mm_ok1 M = true) mo_X7_lost mo_X7_within) (mm_cd (P := fun M => mm_ok1 M = true) mo_X7_isSheet (mm_cd (P := fun M => mm_ok1 M = true) mo_X7_isSort mo_X7_against))) (mm_cd (P := fun M => mm_ok1 M = true) (mm_cd (P := fun M => mm_ok1 M = true) mo_X7_all mo_X7_isCell) (mm_cd (P := fun M => mm_ok1 M = true) mo_X7_digit (mm_cd (P := fun M => mm_ok1 M = true) mo_X7_pond mo_X7_readPond))))) (mm_cd (P := fun M => mm_ok1 M = true) (mm_cd (P := fun M => mm_ok1 M = true) (mm_cd (P := fun M => mm_ok1 M = true) (mm_cd (P := fun M => mm_ok1 M = true) mo_X7_beside mo_X7_way) (mm_cd (P := fun M => mm_ok1 M = true) mo_X7_layWays (mm_cd (P := fun M => mm_ok1 M = true) mo_X7_goOn mo_X7_water))) (mm_cd (P := fun M => mm_ok1 M = true) (mm_cd (P := fun M => mm_ok1 M = true) mo_X7_far mo_X7_reach) (mm_cd (P := fun M => mm_ok1 M = true) mo_X7_comes (mm_cd (P := fun M => mm_ok1 M = true) mo_X7_isStone mo_X7_stone)))) (mm_cd (P := fun M => mm_ok1 M = true) (mm_cd (P := fun M => mm_ok1 M = true) (mm_cd (P := fun M => mm_ok1 M = true) mo_X7_overAt mo_X7_ofStone) (mm_cd (P := fun M => mm_ok1 M = true) mo_X7_back (mm_cd (P := fun M => mm_ok1 M = true) mo_X7_ring mo_X7_offer))) (mm_cd (P := fun M => mm_ok1 M = true) (mm_cd (P := fun M => mm_ok1 M = true) mo_X7_findMeet mo_X7_isThere) (mm_cd (P := fun M => mm_ok1 M = true) mo_X7_meet (mm_cd (P := fun M => mm_ok1 M = true) mo_X7_first mo_X7_isWish)))))) (mm_cd (P := fun M => mm_ok1 M = true) (mm_cd (P := fun M => mm_ok1 M = true) (mm_cd (P := fun M => mm_ok1 M = true) (mm_cd (P := fun M => mm_ok1 M = true) (mm_cd (P := fun M => mm_ok1 M = true) mo_X7_wish mo_X7_ofWish) (mm_cd (P := fun M => mm_ok1 M = true) mo_X7_drop (mm_cd (P := fun M => mm_ok1 M = true) mo_X7_isWithin mo_X7_meetBy))) (mm_cd (P := fun M => mm_ok1 M = true) (mm_cd (P := fun M => mm_ok1 M = true) mo_X7_layMeets mo_X7_layMeetsAt) (mm_cd (P := fun M => mm_ok1 M = true) mo_X7_apart (mm_cd (P := fun M => mm_ok1 M = true) mo_X7_size mo_X7_mayAtOnce)))) (mm_cd (P := fun M => mm_ok1 M = true) (mm_cd (P := fun M => mm_ok1 M = true) (mm_cd (P := fun M => mm_ok1 M = true) mo_X7_mostAtOnce mo_X7_atOnce) (mm_cd (P := fun M => mm_ok1 M = true) mo_X7_mayBe (mm_cd (P := fun M => mm_ok1 M = true) mo_X7_mayGoOn mo_X7_find))) (mm_cd (P := fun M => mm_ok1 M = true) (mm_cd (P := fun M => mm_ok1 M = true) mo_X7_soonest mo_X7_alone) (mm_cd (P := fun M => mm_ok1 M = true) mo_X7_sunset (mm_cd (P := fun M => mm_ok1 M = true) mo_X7_reed mo_X7_pull))))) (mm_cd (P := fun M => mm_ok1 M = true) (mm_cd (P := fun M => mm_ok1 M = true) (mm_cd (P := fun M => mm_ok1 M = true) (mm_cd (P := fun M => mm_ok1 M = true) mo_X7_doesFit mo_X7_fits) (mm_cd (P := fun M => mm_ok1 M = true) mo_X7_dig (mm_cd (P := fun M => mm_ok1 M = true) mo_X7_sheet mo_X7_lose))) (mm_cd (P := fun M => mm_ok1 M = true) (mm_cd (P := fun M => mm_ok1 M = true) mo_X7_put mo_X7_cell) (mm_cd (P := fun M => mm_ok1 M = true) mo_X7_copy (mm_cd (P := fun M => mm_ok1 M = true) mo_X7_begins mo_X7_tell)))) (mm_cd (P := fun M => mm_ok1 M = true) (mm_cd (P := fun M => mm_ok1 M = true) (mm_cd (P := fun M => mm_ok1 M = true) mo_X7_make mo_X7_as) (mm_cd (P := fun M => mm_ok1 M = true) mo_X7_trace (mm_cd (P := fun M => mm_ok1 M = true) mo_X7_fault mo_X7_many))) (mm_cd (P := fun M => mm_ok1 M = true) (mm_cd (P := fun M => mm_ok1 M = true) mo_J6_bitCount_0f7a4 mo_J13_bitCount_95d88) (mm_cd (P := fun M => mm_ok1 M = true) mo_J7_fill_d0a16 (mm_cd (P := fun M => mm_ok1 M = true) mo_J7_fill_53178 mo_L_law))))))))
theorem mm_find_mem : ∀ {t : List (Nat × Instr × Nat)} {pc : Nat} {i : Instr}, mm_find t pc = some i → ∃ n, (pc, i, n) ∈ t
  | [], _, _, h => by cases h
  | e :: t, pc, i, h => by
    unfold mm_find at h
    cases hb : Nat.beq e.1 pc with
    | true =>
      rw [hb] at h
      have e1 : e.1 = pc := Nat.eq_of_beq_eq_true hb
      have e2 : e.2.1 = i := Option.some.inj h
      refine ⟨e.2.2, ?_⟩
      rw [← e1, ← e2]
      exact List.mem_cons_self
    | false =>
      rw [hb] at h
      obtain ⟨n, hn⟩ := mm_find_mem h
      exact ⟨n, List.mem_cons_of_mem _ hn⟩
theorem mm_find2_mem : ∀ {t : List (Nat × Nat)} {k z : Nat}, mm_find2 t k = some z → (k, z) ∈ t
  | [], _, _, h => by cases h
  | e :: t, k, z, h => by
    unfold mm_find2 at h
    cases hb : Nat.beq e.1 k with
    | true =>
      rw [hb] at h
      have e1 : e.1 = k := Nat.eq_of_beq_eq_true hb
      have e2 : e.2 = z := Option.some.inj h
      rw [← e1, ← e2]
      exact List.mem_cons_self
    | false =>
      rw [hb] at h
      exact List.mem_cons_of_mem _ (mm_find2_mem h)
theorem mm_find4_mem : ∀ {t : List (Nat × Nat × Nat × Nat)} {k : Nat} {z : Nat × Nat × Nat}, mm_find4 t k = some z → (k, z) ∈ t
  | [], _, _, h => by cases h
  | e :: t, k, z, h => by
    unfold mm_find4 at h
    cases hb : Nat.beq e.1 k with
    | true =>
      rw [hb] at h
      have e1 : e.1 = k := Nat.eq_of_beq_eq_true hb
      have e2 : e.2 = z := Option.some.inj h
      rw [← e1, ← e2]
      exact List.mem_cons_self
    | false =>
      rw [hb] at h
      exact List.mem_cons_of_mem _ (mm_find4_mem h)
theorem mm_dec {y pc : Nat} {i : Instr} (h : mm_find (mm_M y).1 pc = some i) : ∃ n, decode (mm_M y).2.2.1 pc = .ok (i, n) ∧ mm_len i n = true := by
  obtain ⟨n, hn⟩ := mm_find_mem h
  have h1 := List.all_eq_true.mp (mm_ok1_all y) _ hn
  rw [Bool.and_eq_true, decide_eq_true_eq] at h1
  exact ⟨n, h1⟩
